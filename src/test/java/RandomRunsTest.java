import java.lang.reflect.Method;
import java.util.ArrayList;
import java.util.Arrays;
import java.util.Collections;
import java.util.Comparator;
import java.util.List;
import java.util.Random;

/** Runs of random calls on WashHouse and on PlainHouse, which must answer alike. */
public final class RandomRunsTest {
    /** What later calls on one object answer is free. */
    private static final int MOST_CALLS = 512;

    /** A wash, the longest row of calls that is begun as a whole, takes fewer. */
    private static final int LONGEST_ROW = 20;

    /** What a run calls most. */
    private static final String[] THEMES = {"", "machine put load pay start minute", "coin pay tube refund",
        "back minute", "start stop breaks mend minute", "program step start takeOut", "put fetch load mix share"};

    private final WashHouse house = new WashHouse();
    private final PlainHouse plain = new PlainHouse();
    private final Check check;
    private final Random random;
    private final int seed;
    private final int theme;
    private final int places;
    private final int washesEvery;
    private int calls = 0;

    private RandomRunsTest(int seed, Check check) {
        this.seed = seed;
        this.check = check;
        random = new Random(seed);
        theme = seed % THEMES.length;
        places = 1 + random.nextInt(random.nextInt(5) == 0 ? 59 : 6);
        washesEvery = 4 + random.nextInt(40);
    }

    public static void main(String[] args) throws Exception {
        int runs = args.length > 0 ? Integer.parseInt(args[0]) : 3000;
        Check check = new Check();
        for (int seed = 0; seed < runs; seed++) {
            new RandomRunsTest(seed, check).run();
        }
        check.end();
    }

    private void run() throws Exception {
        List<Method> methods = methods();
        if (random.nextInt(4) > 0) {
            setUp();
        }
        int until = LONGEST_ROW + random.nextInt(MOST_CALLS - 2 * LONGEST_ROW);
        while (calls < until) {
            if (random.nextInt(washesEvery) == 0) {
                wash(place());
            }
            Method method = methods.get(random.nextInt(methods.size()));
            act(method.getName(), values(method));
        }
        lookRound();
    }

    /** One call on both houses, and what it answered. */
    private long act(String name, Object... values) throws Exception {
        Class<?>[] types = new Class<?>[values.length];
        for (int i = 0; i < values.length; i++) {
            types[i] = values[i] instanceof Boolean ? boolean.class : int.class;
        }
        long want = ((Number) PlainHouse.class.getMethod(name, types).invoke(plain, values)).longValue();
        long got = ((Number) WashHouse.class.getMethod(name, types).invoke(house, values)).longValue();
        calls++;
        check.due(at() + name + Arrays.toString(values), got, want);
        return want;
    }

    private String at() {
        return "run " + seed + ", call " + calls + ": ";
    }

    private void setUp() throws Exception {
        int[] values = {1, 2, 5, 10, 25, 60};
        for (int k = 0; k < values.length; k++) {
            act("tube", k, values[k], upTo(12));
        }
        for (int place = 0; place < places; place++) {
            act("machine", place, upTo(5), 1 + upTo(20000), price());
        }
        act("bound", 10 + upTo(90), 4 + upTo(40), 4 + upTo(30));
    }

    /** The calls that lead to a run, if nothing is in their way. */
    private void wash(int place) throws Exception {
        long kind = act("told", place, 0);
        long load = act("load", upTo(10), 1 + upTo(500), upTo(4));
        act("put", place, (int) load);
        act("coin", place, upTo(6), 1 + upTo(6));
        act("coin", place, upTo(6), 1 + upTo(6));
        act("pay", place);
        int p = upTo(4);
        int n = 1 + upTo(3);
        act("program", p, n);
        int[] steps = kind == 2 ? new int[] {1, 2, 4} : kind == 3 ? new int[] {2, 4} : new int[] {0, 1, 3, 4};
        for (int i = 0; i < n; i++) {
            act("step", p, i, steps[upTo(steps.length)], 1 + upTo(random.nextInt(4) == 0 ? 200 : 6));
        }
        act("start", place, p);
    }

    /** All that can be asked, in any order, for as many calls as are left. */
    private void lookRound() throws Exception {
        List<Object[]> questions = new ArrayList<>();
        questions.add(new Object[] {"digest"});
        questions.add(new Object[] {"status"});
        addQuestions(questions, "count", 13);
        addQuestions(questions, "trace", 31);
        addQuestions(questions, "used", 6);
        addQuestions(questions, "given", 12);
        addQuestions(questions, "minutes", 5);
        for (int place = 0; place <= places; place++) {
            addQuestions(questions, "touches", 2, place);
            addQuestions(questions, "told", 13, place);
            addQuestions(questions, "book", 9, place);
            questions.add(new Object[] {"cost", place, 99991});
        }
        for (int k = 0; k < 12; k++) {
            addQuestions(questions, "coins", 2, k);
        }
        for (int load = 0; load < plain.count(3); load++) {
            addQuestions(questions, "about", 5, load);
        }
        Collections.shuffle(questions, random);
        for (int i = 0; i < questions.size() && calls < MOST_CALLS; i++) {
            Object[] question = questions.get(i);
            act((String) question[0], Arrays.copyOfRange(question, 1, question.length));
        }
    }

    /** A call with the numbers told, and behind them one from 0 up to n. */
    private static void addQuestions(List<Object[]> questions, String name, int n, Object... numbers) {
        for (int i = 0; i < n; i++) {
            Object[] question = new Object[numbers.length + 2];
            question[0] = name;
            System.arraycopy(numbers, 0, question, 1, numbers.length);
            question[numbers.length + 1] = i;
            questions.add(question);
        }
    }

    private List<Method> methods() {
        List<Method> list = new ArrayList<>();
        List<String> often = Arrays.asList((THEMES[1] + " " + THEMES[theme] + " " + THEMES[theme]).split(" "));
        Method[] all = WashHouse.class.getDeclaredMethods();
        Arrays.sort(all, Comparator.comparing(Method::getName));
        for (Method method : all) {
            if (java.lang.reflect.Modifier.isPublic(method.getModifiers())) {
                list.add(method);
                for (String name : often) {
                    if (name.equals(method.getName())) {
                        list.addAll(List.of(method, method));
                    }
                }
            }
        }
        return list;
    }

    private Object[] values(Method method) {
        Object[] values;
        switch (method.getName()) {
            case "machine": values = ints(place(), upTo(5), weight(), price()); break;
            case "drum": values = ints(place(), weight()); break;
            case "told": values = ints(place(), upTo(13)); break;
            case "wish": values = ints(place(), upTo(5), upTo(5)); break;
            case "trace": values = ints(upTo(31)); break;
            case "touches": values = ints(place(), upTo(2)); break;
            case "program": values = ints(upTo(4), random.nextInt(20) == 0 ? -1 : upTo(random.nextBoolean() ? 4 : 31)); break;
            case "step": values = ints(upTo(4), upTo(4), upTo(5), 1 + upTo(random.nextInt(4) == 0 ? 200 : 5)); break;
            case "tube": values = ints(upTo(12), new int[] {1, 2, 3, 5, 7, 10, 11, 20, 25, 50, 100, 500}[upTo(12)], upTo(random.nextBoolean() ? 8 : 1001)); break;
            case "coin": values = ints(place(), upTo(12), 1 + upTo(random.nextBoolean() ? 4 : 50)); break;
            case "given": values = ints(upTo(12)); break;
            case "coins": values = ints(upTo(12), upTo(2)); break;
            case "load": values = ints(upTo(10), weight(), upTo(4)); break;
            case "mix": return wild(new Object[] {upTo(4), upTo(4), random.nextInt(3) > 0}, 2);
            case "put": values = ints(place(), upTo(30)); break;
            case "fetch": values = ints(upTo(30)); break;
            case "about": values = ints(upTo(30), upTo(5)); break;
            case "share": values = ints(upTo(30), upTo(7)); break;
            case "start": values = ints(place(), upTo(4)); break;
            case "minute": values = ints(1 + upTo(random.nextInt(6) == 0 ? 60 : 4)); break;
            case "breaks": values = ints(place(), upTo(12)); break;
            case "bound": values = ints(upTo(200), upTo(200), upTo(200)); break;
            case "used": values = ints(upTo(6)); break;
            case "book": values = ints(place(), upTo(9)); break;
            case "cost": values = ints(place(), upTo(1000001)); break;
            case "count": values = ints(upTo(13)); break;
            case "back": values = ints(1 + upTo(random.nextInt(5) == 0 ? 300 : 6)); break;
            case "minutes": case "takeOut": values = ints(upTo(4)); break;
            default: values = method.getParameterCount() == 0 ? ints() : ints(place());
        }
        return wild(values, values.length);
    }

    /** Now and then one number is at an edge, or far outside. */
    private Object[] wild(Object[] values, int numbers) {
        if (numbers > 0 && random.nextInt(25) == 0) {
            int[] edges = {-1, 0, 8, 9, 10, 12, 13, 39, 40, 59, 60, 200, 201, 300, 301, 500, 1000, 1001,
                5000, 5001, 10000, 10001, 20000, 20001, 1000000, 1000001, Integer.MIN_VALUE, Integer.MAX_VALUE};
            values[random.nextInt(numbers)] = edges[random.nextInt(edges.length)];
        }
        return values;
    }

    private static Object[] ints(Object... values) {
        return values;
    }

    private int upTo(int n) {
        return random.nextInt(n);
    }

    private int place() {
        return upTo(places + 1);
    }

    private int weight() {
        return random.nextBoolean() ? 1 + upTo(50) : 1 + upTo(20000);
    }

    private int price() {
        return random.nextInt(3) == 0 ? 0 : upTo(60);
    }
}
