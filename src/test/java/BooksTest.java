/** Promises 34 to 39: books, and the state of earlier minutes. */
public final class BooksTest {
    private static final Check CHECK = new Check();

    public static void main(String[] args) {
        book();
        cost();
        count();
        back();
        whatBackLeaves();
        timeNought();
        threeHundredMinutes();
        aHouseFullOfRuns();
        digest();
        status();
        CHECK.end();
    }

    private static void book() {
        CHECK.run("34 book", """
            book(-1, 0) = -1; book(60, 9) = -1; book(0, -1) = -2; book(0, 9) = -2; book(0, 0) = -21
            machine(0, 0, 5, 2); machine(1, 1, 5, 0); load(0, 1, 0); load(0, 1, 0); put(0, 0); put(1, 1); tube(0, 1, 0); coin(0, 0, 2); pay(0); pay(1)
            book(0, 8) = 2; program(0, 2); step(0, 0, 0, 1); step(0, 1, 1, 3); bound(100, 5, 100); start(0, 0); start(1, 0); book(0, 6) = 1
            minute(5); book(0, 0) = 3; book(0, 1) = 2; book(1, 0) = 3; book(1, 1) = 2; book(0, 2) = 10; book(1, 2) = 10; book(0, 3) = 8; book(1, 3) = 4
            book(0, 4) = 7; book(1, 4) = 14; book(0, 5) = 4; book(1, 5) = 12; book(0, 7) = 0; stop(0) = 1; book(0, 7) = 1; breaks(1, 1)
            minute(1); book(1, 7) = 1; coin(0, 0, 2); pay(0) = 0; book(0, 8) = 4; start(0, 0) = 1; book(0, 6) = 2; book(1, 8) = 0
            """);
    }

    private static void cost() {
        CHECK.run("35 cost", """
            cost(-1, 0) = -1; cost(60, -1) = -1; cost(0, -1) = -2; cost(0, 1000001) = -2; cost(0, 0) = -26; cost(0, 7) = -26; status() = 6
            load(0, 1, 0); load(0, 1, 0); load(0, 1, 0); machine(3, 0, 5, 0); put(3, 0); pay(3); machine(7, 2, 5, 0); put(7, 1); pay(7)
            machine(59, 3, 5, 0); put(59, 2); pay(59); cost(3, 9) = -26; program(0, 1); start(3, 0); start(7, 0); start(59, 0); minute(1)
            cost(3, 100) = 34; cost(7, 100) = 33; cost(59, 100) = 33; cost(0, 100) = 0; cost(3, 0) = 0; cost(3, 2) = 1; cost(7, 2) = 1; cost(59, 2) = 0
            pay(59); start(59, 0); minute(1); cost(3, 10) = 3; cost(7, 10) = 2; cost(59, 10) = 5; cost(3, 9) = 2; cost(7, 9) = 2; cost(59, 9) = 5
            cost(59, 1000000) = 500000; fetch(2) = 59; remove(59) = 3; cost(3, 9) = 5; cost(7, 9) = 4; cost(59, 9) = 0
            back(1) = 1; cost(59, 9) = 3; back(1) = 0; cost(59, 9) = -26
            """);
        CHECK.run("35 cost beyond an int", """
            load(0, 1, 0); load(0, 1, 0); machine(0, 0, 5, 0); machine(1, 0, 5, 0); put(0, 0); put(1, 1); pay(0); pay(1); program(0, 30)
            step(0, 0, 4, 200); step(0, 1, 4, 200); step(0, 2, 4, 200); step(0, 3, 4, 200); step(0, 4, 4, 200); step(0, 5, 4, 200); step(0, 6, 4, 200)
            step(0, 7, 4, 200); step(0, 8, 4, 200); step(0, 9, 4, 200); step(0, 10, 4, 200); step(0, 11, 4, 200); step(0, 12, 4, 200)
            start(0, 0) = 1; start(1, 0) = 1; minute(1); stop(1); minute(60); minute(60); minute(60); minute(60); minute(60); minute(60); minute(60); minute(60)
            minute(60); minute(60); minute(60); minute(60); minute(60); minute(60); minute(60); minute(60); minute(60); minute(60); minute(60); minute(60)
            minute(60); minute(60); minute(60); minute(60); minute(60); minute(60); minute(60); minute(60); minute(60); minute(60); minute(60); minute(60)
            minute(60); minute(60); minute(60); minute(60); minute(60); minute(60); minute(60); minute(60); book(0, 0) = 2401; book(1, 0) = 1
            cost(0, 1000000) = 999584; cost(1, 1000000) = 416
            """);
    }

    private static void count() {
        CHECK.run("36 count", """
            count(-1) = -2; count(13) = -2; machine(0, 0, 5, 2); machine(9, 4, 0, 0); program(3, 2); program(4, 0); load(0, 1, 0); load(0, 1, 0)
            tube(0, 1, 3); tube(1, 5, 1); coin(0, 1, 1); count(6) = 13; pay(0) = 3; put(0, 0); step(3, 0, 0, 1); start(0, 3) = 1; minute(1)
            count(0) = 1; count(1) = 2; count(2) = 2; count(3) = 2; count(4) = 2; count(5) = 1; count(6) = 10; count(7) = 5; count(8) = 3; count(9) = 2
            count(10) = 0; count(11) = 1; count(12) = 0; minute(1); count(5) = 0; count(10) = 10; fetch(0); count(3) = 2; remove(9); count(1) = 1
            takeOut(3); count(2) = 1; told(9, 0) = -21; fetch(0) = -22; count(12) = 2; count(11) = 2
            """);
    }

    private static void back() {
        CHECK.run("37 back", """
            back(0) = -2; back(-1) = -2; back(301) = -2; back(1) = -3; minute(2); back(3) = -3; back(2) = 0; back(1) = -3; count(11) = 0
            minute(3) = 3; machine(0, 0, 5, 0); minute(1) = 4; machine(1, 0, 5, 0); back(1) = 3; count(1) = 0; count(11) = 3; back(3) = 0
            """);
        CHECK.run("37 all of the state comes back", """
            machine(0, 4, 5, 1); drum(0, 6); machine(1, 2, 5, 0); program(0, 2); step(0, 0, 0, 2); load(0, 4, 1); put(0, 0); tube(0, 1, 5)
            coin(0, 0, 1); pay(0); coin(1, 0, 2); mix(1, 2, false); bound(50, 51, 52); start(0, 0) = 1; breaks(1, 9); minute(1)
            remove(0) = -27; stop(0); fetch(0); remove(0); machine(0, 3, 9, 9); refund(1); tube(0, 2, 9); mix(1, 2, true); program(0, 9); program(5, 5)
            takeOut(0); breaks(1, 0); load(1, 1, 1); remove(1); minute(4); back(4) = 1
            told(0, 0) = 4; told(0, 1) = 11; told(0, 2) = 1; told(0, 3) = 0; told(0, 4) = 2; told(0, 5) = 20; told(0, 6) = 1; told(0, 7) = 1; told(0, 8) = 2
            left(0) = 2; minutes(0) = 3; minutes(5) = -23; about(0, 3) = 0; about(1, 0) = -1; coins(0, 0) = 1; coins(0, 1) = 8; credit(1) = 2
            count(7) = 3; count(8) = 0; count(9) = 1; count(10) = 0; book(0, 0) = 1; book(0, 7) = 0; book(0, 8) = 1; mix(1, 2, true) = 0; used(3) = 50
            used(4) = 51; used(0) = 20; share(0, 1) = 2; minute(2); told(0, 3) = 1; minute(5); told(1, 4) = 1; minute(1); told(1, 4) = 4; refund(1) = 2
            """);
    }

    private static void whatBackLeaves() {
        CHECK.run("37 what back() leaves", """
            machine(0, 0, 5, 0); minute(1); load(0, 1, 0); put(0, 0); told(1, 0) = -21; wish(0, 3, 0); tube(0, 3, 4); coin(0, 0, 1); pay(0) = 3
            back(1) = 0; count(4) = 1; count(3) = 0; trace(0) = 3; trace(1) = -5; touches(0, 0) = 2; status() = 1; count(12) = 1; given(0) = 1
            coins(0, 0) = 0; told(0, 7) = 0; told(0, 6) = 0; back(1) = -3; count(12) = 1; status() = 1
            """);
    }

    private static void timeNought() {
        CHECK.run("37 of time 0 the state right ahead of the latest minute", """
            machine(0, 0, 5, 0); minute(1); machine(1, 0, 5, 0); back(1) = 0; told(0, 0) = 0; told(1, 0) = -21
            machine(2, 1, 5, 0); minute(1); remove(0); remove(2); back(1) = 0; told(2, 0) = 1; told(0, 0) = 0; remove(0) = 0; minute(2); back(2) = 0
            told(0, 0) = -21; told(2, 0) = 1; minute(1); machine(5, 3, 5, 0); minute(1); machine(6, 3, 5, 0); back(1) = 1; told(5, 0) = -21; count(1) = 1
            """);
    }

    private static void threeHundredMinutes() {
        CHECK.run("37 the latest 301 times", """
            machine(0, 0, 5, 0); minute(60); minute(60); minute(60); minute(60); minute(60) = 300; count(11) = 300; back(300) = 0; told(0, 0) = 0; count(11) = 0
            minute(60); minute(60); minute(60); minute(60); minute(60) = 300; minute(1) = 301; count(11) = 300; machine(1, 0, 5, 0); minute(9) = 310
            back(300) = 10; told(1, 0) = -21; count(11) = 0; back(1) = -3; minute(5) = 15; count(11) = 5; back(6) = -3; back(5) = 10
            minute(60); minute(60); minute(60); minute(60); minute(60) = 310; back(300) = 10; minute(60); minute(60); minute(60); minute(60); minute(60); minute(30) = 340
            count(11) = 300; back(100) = 240; count(11) = 200; back(201) = -3; minute(60) = 300; count(11) = 260; back(260) = 40; back(1) = -3
            """);
    }

    /** Sixty runs that wait for one another: 332 calls of the 512 that an object is used for. */
    private static WashHouse fullHouse() {
        WashHouse house = new WashHouse();
        house.bound(400, 130, 150);
        house.program(0, 30);
        for (int i = 0; i < 30; i++) {
            house.step(0, i, i % 2, 30);
        }
        for (int place = 0; place < 60; place++) {
            house.machine(place, place % 2, 5, 0);
            house.load(0, 1, 0);
            house.put(place, place);
            house.pay(place);
            house.start(place, 0);
        }
        return house;
    }

    private static WashHouse fullHouseAt(int time) {
        WashHouse house = fullHouse();
        for (int t = 0; t + 60 <= time; t += 60) {
            house.minute(60);
        }
        return house;
    }

    private static void aHouseFullOfRuns() {
        long[] digests = new long[661];
        for (int from = 0; from < 660; from += 60) {
            WashHouse house = fullHouseAt(from);
            for (int time = from + 1; time <= from + 60; time++) {
                CHECK.due("37 minute", house.minute(1), time);
                digests[time] = house.digest();
            }
        }
        for (int time : new int[] {120, 300, 360, 600, 660}) {
            for (int n : new int[] {1, 2, 59, 60, 61, 119, 180, 241, 299, 300}) {
                if (n < time) {
                    goBackAndReturn(fullHouseAt(time), digests, time, n);
                }
            }
            goBackOneByOne(fullHouseAt(time), digests, time);
        }
    }

    /** The same minutes once more must lead to the same states. */
    private static void goBackAndReturn(WashHouse house, long[] digests, int time, int n) {
        int then = time - n;
        CHECK.due("37 runs", house.count(5), 60);
        CHECK.due("37 back(" + n + ")", house.back(n), then);
        CHECK.due("37 digest of " + then, house.digest(), digests[then]);
        for (int t = then + 1; t <= Math.min(time, then + 60); t++) {
            CHECK.due("37 minute", house.minute(1), t);
            CHECK.due("37 digest of " + t, house.digest(), digests[t]);
        }
    }

    private static void goBackOneByOne(WashHouse house, long[] digests, int time) {
        for (int then = time - 1; then >= time - 80; then--) {
            CHECK.due("37 back(1)", house.back(1), then);
            CHECK.due("37 digest of " + then, house.digest(), digests[then]);
        }
    }

    private static long digestOf(long... values) {
        long h = 17;
        for (long v : values) {
            h = h * 31 + v;
        }
        return h;
    }

    private static void digest() {
        long[] none = new long[73];
        for (int place = 0; place < 60; place++) {
            none[1 + place] = -1;
        }
        WashHouse house = new WashHouse();
        CHECK.due("38 a new object", house.digest(), digestOf(none));
        CHECK.go("38", house, """
            machine(0, 4, 5, 0); load(0, 5, 0); put(0, 0); pay(0); load(0, 2, 0); load(0, 1, 0); program(0, 2); step(0, 0, 0, 2); start(0, 0) = 1
            machine(1, 3, 2, 0); put(1, 2); fetch(2); tube(11, 3, 4); coin(1, 11, 2) = 6; breaks(1, 1); minute(1)
            """);
        long[] some = new long[1 + 6 + 6 + 58 + 12 + 3];
        System.arraycopy(new long[] {1, 4, 10, 2, 2, 1, 0, 3, 0, 4, 0, 0, 6}, 0, some, 0, 13);
        for (int i = 13; i < 71; i++) {
            some[i] = -1;
        }
        System.arraycopy(new long[] {6, 0, -1, -2}, 0, some, 82, 4);
        CHECK.due("38 of a minute", house.digest(), digestOf(some));
    }

    private static void status() {
        CHECK.run("39 status, of each finding", """
            status() = 0; told(-1, 0) = -1; bound(-1, 0, 0) = -2; stop(0) = -21; status() = 1; load(0, 9, 0); load(0, 1, 1); fetch(0) = -22; status() = 2
            minutes(0) = -23; status() = 3; program(0, 1); step(0, 1, 0, 1) = -24; status() = 4; machine(0, 4, 0, 1); machine(1, 0, 9, 1)
            drum(1, 1) = -25; status() = 5; put(0, 0) = -26; status() = 6; put(1, 0) = 1; remove(1) = -27; status() = 7; pay(1) = -28; status() = 8
            tube(0, 2, 0); coin(1, 0, 1); pay(1) = -29; status() = 9; fetch(0); put(1, 1) = 1; mix(0, 1, false); load(0, 1, 0); put(1, 2) = -30
            status() = 10; load(0, 9, 1); put(1, 3) = -31; status() = 11; tube(0, 1, 0); coin(1, 0, 1); pay(1) = 0; bound(0, 0, 0); start(1, 0) = -32
            status() = 12; program(0, -1) = -33; status() = 13; count(12) = 13; minute(1); stop(1) = -3; status() = 13; put(60, 0) = -1; status() = 13
            back(1); status() = 13; told(5, 0) = -21; status() = 1; count(12) = 14
            """);
    }
}
