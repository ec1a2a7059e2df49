import java.util.ArrayList;
import java.util.Arrays;
import java.util.Comparator;
import java.util.HashMap;
import java.util.List;
import java.util.Map;
import java.util.TreeMap;

/**
 * The document told a second time, as plainly as the Java library lets it: the state is copied whole
 * at each minute, change is looked for by trying every number of every coin. RandomRunsTest holds
 * WashHouse against it.
 */
final class PlainHouse {
    private static final class Box {
        int kind, price, lamp = 1, water, waited, breakAt = -1;
        boolean open = true, paid;
        List<Integer> rooms = new ArrayList<>();
        List<Integer> loads = new ArrayList<>();
        List<int[]> run = null;
        int[] book = new int[9];
        int[] credit = new int[12];

        Box copy() {
            Box b = new Box();
            b.kind = kind;
            b.price = price;
            b.lamp = lamp;
            b.water = water;
            b.waited = waited;
            b.breakAt = breakAt;
            b.open = open;
            b.paid = paid;
            b.rooms = new ArrayList<>(rooms);
            b.loads = new ArrayList<>(loads);
            b.run = copySteps(run);
            b.book = book.clone();
            b.credit = credit.clone();
            return b;
        }

        int drums() {
            return kind == 4 ? rooms.size() : 0;
        }

        int room() {
            return rooms.stream().mapToInt(Integer::intValue).sum();
        }

        int left() {
            return run == null ? 0 : run.stream().mapToInt(s -> s[1]).sum();
        }

        boolean washes() {
            return kind == 0 || kind == 1 || kind == 4;
        }

        boolean turns() {
            return kind != 3;
        }
    }

    private static final class Now {
        int time;
        Map<Integer, Box> boxes = new TreeMap<>();
        Map<Integer, List<int[]>> programs = new TreeMap<>();
        int[] values = new int[12];
        int[] coins = new int[12];
        List<int[]> loads = new ArrayList<>();
        boolean[][] barred = new boolean[10][10];
        int[] bounds = {100, 100, 100};
        int[] used = new int[3];
        boolean begun;
        int in, out, paid, off;

        Now copy() {
            Now n = new Now();
            n.time = time;
            boxes.forEach((k, b) -> n.boxes.put(k, b.copy()));
            programs.forEach((k, p) -> n.programs.put(k, copySteps(p)));
            n.values = values.clone();
            n.coins = coins.clone();
            loads.forEach(l -> n.loads.add(l.clone()));
            for (int i = 0; i < 10; i++) {
                n.barred[i] = barred[i].clone();
            }
            n.bounds = bounds.clone();
            n.used = used.clone();
            n.begun = begun;
            n.in = in;
            n.out = out;
            n.paid = paid;
            n.off = off;
            return n;
        }
    }

    private static List<int[]> copySteps(List<int[]> steps) {
        if (steps == null) {
            return null;
        }
        List<int[]> copy = new ArrayList<>();
        steps.forEach(s -> copy.add(s.clone()));
        return copy;
    }

    private Now now = new Now();
    private final TreeMap<Integer, Now> kept = new TreeMap<>();
    private final List<Integer> bodies = new ArrayList<>();
    private final int[] touched = new int[60];
    private int[] given = new int[12];
    private int tickets, findings, status;

    private int f(int finding) {
        status = finding;
        findings++;
        return -20 - finding;
    }

    private static boolean in(int x, int a, int b) {
        return a <= x && x <= b;
    }

    private void touch(int place) {
        touched[place] += 1 + now.boxes.get(place).drums();
    }

    public int machine(int place, int kind, int room, int price) {
        if (!in(place, 0, 59)) return -1;
        if (!in(kind, 0, 4) || !in(room, kind == 4 ? 0 : 1, 20000) || !in(price, 0, 5000)) return -2;
        if (now.boxes.containsKey(place)) return -3;
        Box b = new Box();
        b.kind = kind;
        b.price = price;
        if (room > 0) b.rooms.add(room);
        now.boxes.put(place, b);
        return 1;
    }

    public int drum(int place, int room) {
        if (!in(place, 0, 59)) return -1;
        if (!in(room, 1, 20000)) return -2;
        Box b = now.boxes.get(place);
        if (b == null) return f(1);
        if (b.kind != 4) return f(5);
        if (!b.loads.isEmpty() || b.run != null) return f(7);
        if (b.rooms.size() == 6) return -4;
        b.rooms.add(room);
        return b.rooms.size();
    }

    public int remove(int place) {
        if (!in(place, 0, 59)) return -1;
        Box b = now.boxes.get(place);
        if (b == null) return f(1);
        if (!b.loads.isEmpty() || b.run != null || credit(place) > 0) return f(7);
        now.boxes.remove(place);
        return b.kind;
    }

    public int told(int place, int what) {
        if (!in(place, 0, 59)) return -1;
        if (!in(what, 0, 12)) return -2;
        Box b = now.boxes.get(place);
        if (b == null) return f(1);
        int[] all = {b.kind, b.room(), b.price, b.open ? 1 : 0, b.lamp, b.water, b.loads.size(),
            b.paid ? 1 : 0, b.drums(), b.run == null ? 0 : b.waited, b.washes() ? 1 : 0,
            b.turns() ? 1 : 0, b.washes() ? 0 : 1};
        return all[what];
    }

    // The bodies, by kinds from the own one upward: 5 is MACHINE.
    private static final int[] UP = {5, 0, 5, 2, 0, -1};
    private static final String[] HAVE = {"50 0 40", "51 1 11 21 31 41", "52 2 12 22 42", "3 13 23"};

    private int tell(int kind, int what, int step, int drums) {
        int at = kind;
        while (!Arrays.asList(HAVE[what].split(" ")).contains(String.valueOf(10 * at + what))) {
            at = UP[at];
        }
        int body = 10 * at + what;
        bodies.add(body);
        int up = UP[at];
        switch (body) {
            case 50: case 51: return 0;
            case 52: return 1;
            case 0: return step == 0 ? 10 : tell(up, what, step, drums);
            case 40: case 41: return tell(up, what, step, drums) * drums;
            case 1: return step == 1 ? 4 : tell(up, what, step, drums);
            case 11: return tell(up, what, step, drums) / 2;
            case 21: return step == 2 ? 9 : step == 1 ? 5 : tell(up, what, step, drums);
            case 31: return step == 2 ? 7 : tell(up, what, step, drums);
            case 2: return tell(up, what, step, drums) + (step == 1 || step == 3 ? 2 : 0);
            case 12: return tell(up, what, step, drums) * 2;
            case 22: return tell(up, what, step, drums) + (step == 1 ? 3 : 0);
            case 42: return tell(up, what, step, drums) + drums;
            case 3: return 2;
            case 13: return 3 * tell(up, what, step, drums);
            case 23: return 1;
            default: throw new IllegalStateException("body " + body);
        }
    }

    private int wear(Box b, int n) {
        bodies.add(64);
        return n * tell(b.kind, 3, 0, b.drums());
    }

    public int wish(int place, int what, int step) {
        if (!in(place, 0, 59)) return -1;
        if (!in(what, 0, 4)) return -2;
        if (what < 3 && !in(step, 0, 4) || what == 4 && !in(step, 0, 1000)) return -2;
        Box b = now.boxes.get(place);
        if (b == null) return f(1);
        if (what > 2 && !b.turns()) return f(5);
        return what == 4 ? wear(b, step) : tell(b.kind, what, step, b.drums());
    }

    public int trace(int i) {
        return in(i, 0, 29) && i < bodies.size() ? bodies.get(bodies.size() - 1 - i) : -5;
    }

    public int touches(int place, int what) {
        if (!in(place, 0, 59)) return -1;
        return in(what, 0, 1) ? touched[place] : -2;
    }

    public int program(int p, int n) {
        if (!in(p, 0, 39)) return -1;
        if (n > 30) return -2;
        if (n < 0) return f(13);
        List<int[]> steps = new ArrayList<>();
        for (int i = 0; i < n; i++) {
            steps.add(new int[] {4, 1});
        }
        now.programs.put(p, steps);
        return 1;
    }

    public int takeOut(int p) {
        if (!in(p, 0, 39)) return -1;
        return now.programs.remove(p) == null ? 0 : 1;
    }

    public int step(int p, int i, int kind, int minutes) {
        if (!in(p, 0, 39)) return -1;
        if (!in(kind, 0, 4) || !in(minutes, 1, 200)) return -2;
        List<int[]> steps = now.programs.get(p);
        if (steps == null) return f(3);
        if (i < 0 || i >= steps.size()) return f(4);
        steps.set(i, new int[] {kind, minutes});
        return 1;
    }

    public int minutes(int p) {
        if (!in(p, 0, 39)) return -1;
        List<int[]> steps = now.programs.get(p);
        return steps == null ? f(3) : steps.stream().mapToInt(s -> s[1]).sum();
    }

    public int tube(int k, int value, int n) {
        if (!in(k, 0, 11)) return -1;
        if (!in(value, 1, 5000) || !in(n, 0, 1000)) return -2;
        for (int i = 0; i < 12; i++) {
            if (i != k && now.values[i] == value) return -3;
        }
        for (int place = 0; place < 60; place++) {
            if (credit(place) > 0) return -3;
        }
        now.values[k] = value;
        now.coins[k] = n;
        return 1;
    }

    public int coin(int place, int k, int n) {
        if (!in(place, 0, 59) || !in(k, 0, 11)) return -1;
        if (!in(n, 1, 50)) return -2;
        if (now.values[k] == 0) return -3;
        Box b = now.boxes.get(place);
        if (b == null) return f(1);
        if (now.coins[k] + n > 1000) return -4;
        now.coins[k] += n;
        b.credit[k] += n;
        now.in += n * now.values[k];
        return credit(place);
    }

    public int pay(int place) {
        if (!in(place, 0, 59)) return -1;
        Box b = now.boxes.get(place);
        if (b == null) return f(1);
        touch(place);
        if (b.paid) return -3;
        int more = credit(place) - b.price;
        if (more < 0) return f(8);
        int[] change = change(place, more);
        if (change == null) {
            refund(place);
            return f(9);
        }
        b.credit = new int[12];
        for (int k = 0; k < 12; k++) {
            now.coins[k] -= change[k];
        }
        given = change;
        b.paid = true;
        b.book[8] += b.price;
        now.paid += b.price;
        now.out += more;
        return more;
    }

    private int[] change(int place, int amount) {
        if (amount > 500) return null;
        int[] spare = now.coins.clone();
        now.boxes.forEach((other, b) -> {
            for (int k = 0; k < 12 && other != place; k++) {
                spare[k] -= b.credit[k];
            }
        });
        List<Integer> greatestFirst = new ArrayList<>();
        for (int k = 0; k < 12; k++) {
            if (now.values[k] > 0) {
                greatestFirst.add(k);
            }
        }
        greatestFirst.sort(Comparator.comparing(k -> -now.values[k]));
        return best(greatestFirst, 0, amount, spare, new HashMap<>());
    }

    /** Trying the most coins first, only a way of strictly fewer coins is better. */
    private int[] best(List<Integer> tubes, int from, int amount, int[] spare, Map<Integer, int[]> known) {
        if (amount == 0) return new int[12];
        if (from == tubes.size()) return null;
        int key = from * 1000 + amount;
        if (known.containsKey(key)) return known.get(key);
        int k = tubes.get(from);
        int[] best = null;
        for (int n = Math.min(spare[k], amount / now.values[k]); n >= 0; n--) {
            int[] rest = best(tubes, from + 1, amount - n * now.values[k], spare, known);
            if (rest != null && (best == null || Arrays.stream(rest).sum() + n < Arrays.stream(best).sum())) {
                best = rest.clone();
                best[k] = n;
            }
        }
        known.put(key, best);
        return best;
    }

    public int refund(int place) {
        if (!in(place, 0, 59)) return -1;
        Box b = now.boxes.get(place);
        if (b == null) return f(1);
        int sum = credit(place);
        for (int k = 0; k < 12; k++) {
            now.coins[k] -= b.credit[k];
        }
        b.credit = new int[12];
        now.out += sum;
        return sum;
    }

    public int given(int k) {
        return in(k, 0, 11) ? given[k] : -1;
    }

    public int coins(int k, int what) {
        if (!in(k, 0, 11)) return -1;
        if (!in(what, 0, 1)) return -2;
        return what == 0 ? now.values[k] : now.coins[k];
    }

    public int credit(int place) {
        if (!in(place, 0, 59)) return -1;
        Box b = now.boxes.get(place);
        int sum = 0;
        for (int k = 0; k < 12 && b != null; k++) {
            sum += b.credit[k] * now.values[k];
        }
        return sum;
    }

    public int load(int kind, int weight, int colour) {
        if (!in(kind, 0, 9) || !in(weight, 1, 20000) || !in(colour, 0, 9)) return -2;
        if (now.loads.size() == 500) return -4;
        now.loads.add(new int[] {kind, weight, colour, -1, ++tickets});
        return now.loads.size() - 1;
    }

    public int mix(int a, int b, boolean may) {
        if (!in(a, 0, 9) || !in(b, 0, 9) || a == b) return -2;
        boolean was = now.barred[a][b];
        now.barred[a][b] = !may;
        now.barred[b][a] = !may;
        return was ? 0 : 1;
    }

    public int put(int place, int load) {
        if (!in(place, 0, 59) || !in(load, 0, now.loads.size() - 1)) return -1;
        Box b = now.boxes.get(place);
        if (b == null) return f(1);
        touch(place);
        int[] l = now.loads.get(load);
        if (l[3] != -1) return f(2);
        if (b.run != null || b.lamp == 4) return f(7);
        if (b.kind == 4 && b.drums() == 0) return f(6);
        if (b.loads.stream().mapToInt(o -> now.loads.get(o)[1]).sum() + l[1] > b.room()) return f(11);
        if (b.loads.stream().anyMatch(o -> now.barred[now.loads.get(o)[2]][l[2]])) return f(10);
        if (b.loads.size() == 8) return -4;
        b.loads.add(load);
        l[3] = place;
        return b.loads.size();
    }

    public int fetch(int load) {
        if (!in(load, 0, now.loads.size() - 1)) return -1;
        int[] l = now.loads.get(load);
        int place = l[3];
        if (place < 0) return f(2);
        touch(place);
        Box b = now.boxes.get(place);
        if (b.run != null) return f(7);
        b.loads.remove((Integer) load);
        l[3] = -2;
        return place;
    }

    public int about(int load, int what) {
        if (!in(load, 0, now.loads.size() - 1)) return -1;
        return in(what, 0, 4) ? now.loads.get(load)[what] : -2;
    }

    public int share(int load, int d) {
        if (!in(load, 0, now.loads.size() - 1)) return -1;
        int[] l = now.loads.get(load);
        if (l[3] < 0) return f(2);
        Box b = now.boxes.get(l[3]);
        if (b.kind != 4) return f(5);
        if (d < 0 || d >= b.rooms.size()) return f(4);
        return shares(l[1], b.rooms).get(d);
    }

    private static List<Integer> shares(int amount, List<Integer> weights) {
        long sum = weights.stream().mapToLong(Integer::longValue).sum();
        List<Integer> parts = new ArrayList<>();
        List<Integer> order = new ArrayList<>();
        int over = amount;
        for (int i = 0; i < weights.size(); i++) {
            parts.add((int) ((long) amount * weights.get(i) / sum));
            over -= parts.get(i);
            order.add(i);
        }
        order.sort(Comparator.comparing(i -> -((long) amount * weights.get(i) % sum)));
        for (int i = 0; i < over; i++) {
            parts.set(order.get(i), parts.get(order.get(i)) + 1);
        }
        return parts;
    }

    private int[] wishes(Box b, int step) {
        int water = tell(b.kind, 0, step, b.drums());
        int heat = tell(b.kind, 1, step, b.drums());
        int power = tell(b.kind, 2, step, b.drums());
        return new int[] {water, heat, power};
    }

    public int start(int place, int p) {
        if (!in(place, 0, 59) || !in(p, 0, 39)) return -1;
        Box b = now.boxes.get(place);
        if (b == null) return f(1);
        touch(place);
        if (b.run != null || b.lamp == 4) return f(7);
        List<int[]> steps = now.programs.get(p);
        if (steps == null) return f(3);
        if (b.loads.isEmpty()) return f(2);
        if (!b.paid) return f(8);
        for (int[] s : steps) {
            boolean[] can = {b.washes(), b.turns(), !b.washes(), b.washes(), true};
            if (!can[s[0]]) return f(5);
            int[] w = wishes(b, s[0]);
            for (int i = 0; i < 3; i++) {
                if (w[i] > now.bounds[i]) return f(12);
            }
        }
        b.run = copySteps(steps);
        b.open = false;
        b.lamp = 2;
        b.waited = 0;
        b.book[6]++;
        now.begun = true;
        if (steps.isEmpty()) end(b);
        return 1;
    }

    private void end(Box b) {
        b.run = null;
        now.off += b.water;
        b.water = 0;
        b.open = true;
        b.lamp = 1;
        b.paid = false;
    }

    public int minute(int n) {
        if (!in(n, 1, 60)) return -2;
        for (int i = 0; i < n; i++) {
            one();
        }
        return now.time;
    }

    private void one() {
        if (now.time == 0) {
            kept.clear();
            kept.put(0, now.copy());
        }
        now.time++;
        now.boxes.forEach((place, b) -> {
            if (b.breakAt == now.time) {
                touch(place);
                if (b.run != null) {
                    b.book[7]++;
                    end(b);
                }
                b.lamp = 4;
                b.breakAt = -1;
            }
        });
        List<Integer> runs = new ArrayList<>(now.boxes.keySet());
        runs.removeIf(place -> now.boxes.get(place).run == null);
        runs.sort(Comparator.comparing(place -> -now.boxes.get(place).waited));
        now.used = new int[3];
        for (int place : runs) {
            touch(place);
            serve(now.boxes.get(place));
        }
        kept.put(now.time, now.copy());
        kept.headMap(now.time - 300).clear();
    }

    private void serve(Box b) {
        int[] s = b.run.get(0);
        int[] w = wishes(b, s[0]);
        for (int i = 0; i < 3; i++) {
            if (now.used[i] + w[i] > now.bounds[i]) {
                b.waited++;
                b.book[1]++;
                b.lamp = 3;
                return;
            }
        }
        for (int i = 0; i < 3; i++) {
            now.used[i] += w[i];
            b.book[2 + i] += w[i];
        }
        b.book[0]++;
        b.water += w[0];
        if (s[0] == 3) {
            now.off += b.water;
            b.water = 0;
        }
        if (s[0] == 1) {
            b.book[5] += wear(b, 1);
        }
        b.waited = 0;
        b.lamp = 2;
        s[1]--;
        if (s[1] == 0) {
            b.run.remove(0);
        }
        if (b.run.isEmpty()) {
            end(b);
        }
    }

    public int left(int place) {
        if (!in(place, 0, 59)) return -1;
        Box b = now.boxes.get(place);
        return b == null ? f(1) : b.left();
    }

    public int stop(int place) {
        if (!in(place, 0, 59)) return -1;
        Box b = now.boxes.get(place);
        if (b == null) return f(1);
        touch(place);
        if (b.run == null) return -3;
        int left = b.left();
        b.book[7]++;
        end(b);
        return left;
    }

    public int breaks(int place, int n) {
        if (!in(place, 0, 59)) return -1;
        if (!in(n, 0, 1000)) return -2;
        Box b = now.boxes.get(place);
        if (b == null) return f(1);
        b.breakAt = n == 0 ? -1 : now.time + n;
        return 1;
    }

    public int mend(int place) {
        if (!in(place, 0, 59)) return -1;
        Box b = now.boxes.get(place);
        if (b == null) return f(1);
        touch(place);
        if (b.lamp != 4) return 0;
        b.lamp = 1;
        return 1;
    }

    public int bound(int water, int heat, int power) {
        if (!in(water, 0, 10000) || !in(heat, 0, 10000) || !in(power, 0, 10000)) return -2;
        if (now.begun) return -3;
        now.bounds = new int[] {water, heat, power};
        return 1;
    }

    public int used(int what) {
        if (!in(what, 0, 5)) return -2;
        return what < 3 ? now.used[what] : now.bounds[what - 3];
    }

    public int book(int place, int what) {
        if (!in(place, 0, 59)) return -1;
        if (!in(what, 0, 8)) return -2;
        Box b = now.boxes.get(place);
        return b == null ? f(1) : b.book[what];
    }

    public int cost(int place, int cost) {
        if (!in(place, 0, 59)) return -1;
        if (!in(cost, 0, 1000000)) return -2;
        List<Integer> places = new ArrayList<>(now.boxes.keySet());
        List<Integer> went = new ArrayList<>();
        places.forEach(i -> went.add(now.boxes.get(i).book[0]));
        if (went.stream().allMatch(w -> w == 0)) return f(6);
        int at = places.indexOf(place);
        return at < 0 ? 0 : shares(cost, went).get(at);
    }

    public int count(int what) {
        if (!in(what, 0, 12)) return -2;
        int money = 0;
        for (int k = 0; k < 12; k++) {
            money += now.values[k] * now.coins[k];
        }
        int runs = (int) now.boxes.values().stream().filter(b -> b.run != null).count();
        int back = now.time == 0 ? 0 : now.time - kept.firstKey();
        int[] all = {now.time, now.boxes.size(), now.programs.size(), now.loads.size(), tickets, runs,
            money, now.in, now.out, now.paid, now.off, back, findings};
        return all[what];
    }

    public int back(int n) {
        if (!in(n, 1, 300)) return -2;
        Now then = kept.get(now.time - n);
        if (then == null) return -3;
        now = then.copy();
        kept.tailMap(now.time, false).clear();
        return now.time;
    }

    public long digest() {
        long h = 17 * 31 + now.time;
        for (int place = 0; place < 60; place++) {
            Box b = now.boxes.get(place);
            int[] all = b == null ? new int[] {-1}
                    : new int[] {b.kind, b.water, b.lamp, b.left(), b.loads.size(), credit(place)};
            for (int v : all) {
                h = h * 31 + v;
            }
        }
        for (int c : now.coins) {
            h = h * 31 + c;
        }
        for (int[] l : now.loads) {
            h = h * 31 + l[3];
        }
        return h;
    }

    public int status() {
        return status;
    }
}
