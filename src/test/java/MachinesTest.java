/** Promises 1 to 8: a new object, and machines. */
public final class MachinesTest {
    private static final Check CHECK = new Check();

    public static void main(String[] args) {
        newObject();
        machine();
        drum();
        remove();
        told();
        wishes();
        speedAndWear();
        wrongWishes();
        trace();
        traceOfRuns();
        touches();
        touchesOfBanks();
        CHECK.end();
    }

    private static void newObject() {
        WashHouse house = CHECK.run("1 new object", """
            status() = 0; trace(0) = -5
            used(0) = 0; used(1) = 0; used(2) = 0; used(3) = 100; used(4) = 100; used(5) = 100
            minutes(0) = -23; minutes(39) = -23; about(0, 0) = -1; back(1) = -3
            """);
        for (int place = 0; place < 60; place++) {
            CHECK.due("1 told", house.told(place, 0), -21);
            CHECK.due("1 touches", house.touches(place, 0), 0);
            CHECK.due("1 credit", house.credit(place), 0);
        }
        for (int k = 0; k < 12; k++) {
            CHECK.due("1 value", house.coins(k, 0), 0);
            CHECK.due("1 coins", house.coins(k, 1), 0);
            CHECK.due("1 given", house.given(k), 0);
        }
        for (int what = 0; what < 12; what++) {
            CHECK.due("1 count " + what, house.count(what), 0);
        }
        // Each told() above, and both minutes(), were findings.
        CHECK.due("1 count 12", house.count(12), 62);
        CHECK.due("1 mix", house.mix(0, 9, true), 1);
    }

    private static void machine() {
        CHECK.run("2 machine", """
            machine(-1, 0, 1, 0) = -1; machine(60, 9, 1, 0) = -1; machine(-2147483648, 0, 1, 0) = -1
            machine(0, -1, 1, 0) = -2; machine(0, 5, 1, 0) = -2
            machine(0, 0, 0, 0) = -2; machine(0, 0, 20001, 0) = -2; machine(0, 1, 0, 0) = -2
            machine(0, 2, -1, 0) = -2; machine(0, 3, 0, 0) = -2; machine(0, 4, -1, 0) = -2; machine(0, 4, 20001, 0) = -2
            machine(0, 0, 1, -1) = -2; machine(0, 0, 1, 5001) = -2
            count(1) = 0; count(12) = 0
            machine(0, 0, 20000, 5000) = 1; machine(59, 0, 1, 0) = 1; machine(1, 4, 0, 0) = 1; machine(2, 4, 20000, 1) = 1
            machine(0, 1, 1, 1) = -3; machine(0, 9, 1, 1) = -2; machine(1, 4, 0, 0) = -3
            told(0, 0) = 0; told(0, 1) = 20000; told(0, 2) = 5000; told(0, 3) = 1; told(0, 4) = 1; told(0, 5) = 0
            told(0, 6) = 0; told(0, 7) = 0; told(0, 8) = 0; told(0, 9) = 0
            told(1, 1) = 0; told(1, 8) = 0; told(2, 1) = 20000; told(2, 8) = 1; count(1) = 4; status() = 0
            """);
    }

    private static void drum() {
        CHECK.run("3 drum", """
            drum(-1, 1) = -1; drum(60, 0) = -1; drum(0, 0) = -2; drum(0, 20001) = -2; drum(0, 1) = -21
            machine(0, 0, 10, 0); machine(1, 1, 10, 0); machine(2, 2, 10, 0); machine(3, 3, 10, 0)
            drum(0, 1) = -25; drum(1, 1) = -25; drum(2, 1) = -25; drum(3, 1) = -25; drum(3, 0) = -2
            machine(4, 4, 0, 0); drum(4, 20000) = 1; drum(4, 1) = 2; drum(4, 2) = 3; drum(4, 3) = 4; drum(4, 4) = 5
            drum(4, 20000) = 6; drum(4, 1) = -4; drum(4, 0) = -2; told(4, 8) = 6; told(4, 1) = 40010; count(12) = 5
            load(0, 5, 0); put(4, 0) = 1; drum(4, 1) = -27; fetch(0) = 4; drum(4, 1) = -4
            machine(5, 4, 7, 0); load(0, 1, 0); put(5, 1) = 1; pay(5) = 0; program(0, 1); start(5, 0) = 1
            drum(5, 1) = -27; minute(1); drum(5, 1) = -27; fetch(1) = 5; drum(5, 1) = 2
            """);
    }

    private static void remove() {
        CHECK.run("4 remove", """
            remove(-1) = -1; remove(60) = -1; remove(0) = -21
            machine(0, 3, 10, 2); remove(0) = 3; remove(0) = -21; machine(0, 4, 10, 2) = 1; remove(0) = 4
            machine(0, 0, 10, 2); load(0, 1, 0); put(0, 0); remove(0) = -27; fetch(0); tube(0, 1, 0)
            coin(0, 0, 1) = 1; remove(0) = -27; refund(0) = 1; remove(0) = 0
            """);
        CHECK.run("4 neighbours stay", """
            machine(0, 0, 5, 0); machine(1, 4, 6, 0); machine(2, 2, 7, 0); remove(1) = 4; told(0, 1) = 5; told(2, 1) = 7; told(2, 0) = 2; told(1, 0) = -21
            """);
        CHECK.run("4 what goes with a machine", """
            machine(0, 4, 10, 0); drum(0, 10); breaks(0, 3); load(0, 1, 0); put(0, 0); pay(0); program(0, 1); start(0, 0)
            remove(0) = -27; minute(1); pay(0) = 0; fetch(0) = 0; book(0, 0) = 1; remove(0) = 4
            machine(0, 0, 5, 0); told(0, 1) = 5; told(0, 7) = 0; told(0, 8) = 0; book(0, 0) = 0; book(0, 6) = 0
            minute(5); told(0, 4) = 1
            """);
    }

    private static void told() {
        CHECK.run("5 told", """
            told(-1, 0) = -1; told(60, 13) = -1; told(0, -1) = -2; told(0, 13) = -2; told(0, 12) = -21
            machine(0, 0, 10, 1); machine(1, 1, 11, 2); machine(2, 2, 12, 3); machine(3, 3, 13, 4); machine(4, 4, 14, 5)
            told(0, 0) = 0; told(1, 0) = 1; told(2, 0) = 2; told(3, 0) = 3; told(4, 0) = 4
            told(0, 10) = 1; told(1, 10) = 1; told(2, 10) = 0; told(3, 10) = 0; told(4, 10) = 1
            told(0, 11) = 1; told(1, 11) = 1; told(2, 11) = 1; told(3, 11) = 0; told(4, 11) = 1
            told(0, 12) = 0; told(1, 12) = 0; told(2, 12) = 1; told(3, 12) = 1; told(4, 12) = 0
            told(3, 1) = 13; told(3, 2) = 4; told(4, 8) = 1; told(3, 8) = 0; told(0, 13) = -2
            """);
        CHECK.run("5 told of a run", """
            bound(15, 100, 100); program(0, 1); step(0, 0, 0, 3); load(0, 1, 0); load(0, 1, 0); load(0, 1, 0)
            machine(0, 0, 10, 0); put(0, 0); put(0, 1); pay(0); machine(1, 1, 10, 0); put(1, 2); pay(1)
            told(0, 7) = 1; told(0, 6) = 2; start(0, 0) = 1; start(1, 0) = 1; told(1, 3) = 0; told(1, 4) = 2; told(1, 9) = 0
            minute(1); told(0, 5) = 10; told(0, 4) = 2; told(0, 9) = 0; told(1, 5) = 0; told(1, 4) = 3; told(1, 9) = 1
            stop(1) = 3; told(1, 9) = 0; told(1, 4) = 1; told(1, 3) = 1; told(1, 7) = 0; told(1, 6) = 1
            """);
    }

    private static void wishes() {
        String[] due = {
            // kind: water, heat, power of FILL, TURN, WARM, DRAIN, REST; the bank has two drums
            "10 0 0 0 0", "0 4 0 0 0", "1 3 1 3 1",
            "10 0 0 0 0", "0 2 0 0 0", "2 6 2 6 2",
            "0 0 0 0 0", "0 5 9 0 0", "1 4 1 1 1",
            "0 0 0 0 0", "0 5 7 0 0", "1 4 1 1 1",
            "20 0 0 0 0", "0 8 0 0 0", "3 5 3 5 3"};
        WashHouse house = new WashHouse();
        for (int kind = 0; kind < 5; kind++) {
            house.machine(kind, kind, 5, 0);
        }
        house.drum(4, 5);
        for (int row = 0; row < 15; row++) {
            String[] steps = due[row].split(" ");
            for (int step = 0; step < 5; step++) {
                CHECK.due("6 kind " + row / 3 + ", wish " + row % 3 + ", step " + step,
                        house.wish(row / 3, row % 3, step), Integer.parseInt(steps[step]));
            }
        }
    }

    private static void speedAndWear() {
        CHECK.run("6 speed and wear", """
            machine(0, 0, 5, 0); machine(1, 1, 5, 0); machine(2, 2, 5, 0); machine(3, 3, 5, 0); machine(4, 4, 0, 0)
            wish(0, 3, 0) = 2; wish(1, 3, 0) = 6; wish(2, 3, 0) = 1; wish(3, 3, 0) = -25; wish(4, 3, 0) = 2
            wish(0, 3, -7) = 2; wish(0, 3, 2147483647) = 2; wish(3, 3, 9999) = -25
            wish(0, 4, 0) = 0; wish(0, 4, 1000) = 2000; wish(1, 4, 1000) = 6000; wish(2, 4, 9) = 9; wish(3, 4, 1) = -25
            wish(0, 4, 5) = 10; wish(4, 4, 5) = 10; wish(0, 4, 1001) = -2; wish(3, 4, -1) = -2
            wish(4, 0, 0) = 0; wish(4, 1, 1) = 0; wish(4, 2, 1) = 3
            """);
    }

    private static void wrongWishes() {
        CHECK.run("6 wrong wishes", """
            wish(-1, 0, 0) = -1; wish(60, 9, 9) = -1; wish(0, -1, 0) = -2; wish(0, 5, 0) = -2
            wish(0, 0, -1) = -2; wish(0, 1, 5) = -2; wish(0, 2, 5) = -2; wish(0, 4, 1001) = -2
            wish(0, 0, 0) = -21; wish(0, 3, 99) = -21; trace(0) = -5; touches(0, 0) = 0
            """);
    }

    private static void trace() {
        CHECK.run("7 trace", """
            machine(0, 0, 5, 0); machine(1, 1, 5, 0); machine(2, 2, 5, 0); machine(3, 3, 5, 0); machine(4, 4, 0, 0)
            trace(0) = -5; trace(-1) = -5
            wish(0, 0, 0) = 10; trace(0) = 0; trace(1) = -5
            wish(0, 0, 1); trace(0) = 50; trace(1) = 0; trace(2) = 0; trace(3) = -5
            wish(1, 0, 4); trace(0) = 50; trace(1) = 0; trace(2) = 50
            wish(2, 0, 0); trace(0) = 50; trace(1) = 50
            wish(3, 0, 0); trace(0) = 50; trace(1) = 50; trace(2) = 50; trace(3) = 0
            wish(4, 0, 0); trace(0) = 0; trace(1) = 40; trace(2) = 50
            wish(1, 1, 1); trace(0) = 1; trace(1) = 11; trace(2) = 0
            wish(1, 1, 0); trace(0) = 51; trace(1) = 1; trace(2) = 11
            wish(3, 1, 2); trace(0) = 31; trace(1) = 51
            wish(3, 1, 1); trace(0) = 21; trace(1) = 31; trace(2) = 31
            wish(3, 1, 4); trace(0) = 51; trace(1) = 21; trace(2) = 31
            wish(4, 1, 4); trace(0) = 51; trace(1) = 1; trace(2) = 41
            wish(3, 2, 2); trace(0) = 52; trace(1) = 22; trace(2) = 51
            wish(1, 2, 0); trace(0) = 52; trace(1) = 2; trace(2) = 12
            wish(4, 2, 0); trace(0) = 52; trace(1) = 2; trace(2) = 42
            wish(1, 3, 0); trace(0) = 3; trace(1) = 13; trace(2) = 52
            wish(1, 4, 0); trace(0) = 3; trace(1) = 13; trace(2) = 64
            wish(2, 4, 7); trace(0) = 23; trace(1) = 64; trace(2) = 3
            wish(3, 4, 7) = -25; wish(3, 3, 7) = -25; wish(2, 4, 1001) = -2; told(2, 11); trace(0) = 23
            trace(29) = 0; trace(30) = -5; trace(2147483647) = -5; trace(-2147483648) = -5
            """);
    }

    private static void traceOfRuns() {
        CHECK.run("7 a start asks all three, step by step", """
            machine(0, 0, 5, 0); load(0, 1, 0); put(0, 0); pay(0); program(0, 2); step(0, 0, 4, 1); step(0, 1, 2, 1)
            start(0, 0) = -25; trace(0) = 52; trace(1) = 2; trace(2) = 51; trace(3) = 1; trace(4) = 50; trace(5) = 0; trace(6) = -5
            bound(9, 100, 100); step(0, 0, 0, 1); start(0, 0) = -32; trace(0) = 52; trace(1) = 2; trace(2) = 51; trace(3) = 1
            trace(4) = 0; trace(5) = 52; trace(11) = -5
            """);
        CHECK.run("7 a minute asks, goes or waits, and turns wear", """
            bound(100, 4, 100); machine(0, 0, 5, 0); machine(1, 0, 5, 0); load(0, 1, 0); load(0, 1, 0)
            put(0, 0); put(1, 1); pay(0); pay(1); program(0, 1); step(0, 0, 1, 2); start(0, 0) = 1; start(1, 0) = 1
            minute(1); trace(0) = 52; trace(1) = 2; trace(2) = 1; trace(3) = 50; trace(4) = 0
            trace(5) = 3; trace(6) = 64; trace(7) = 52; trace(8) = 2; trace(9) = 1; trace(10) = 50; trace(11) = 0
            back(1) = 0; trace(6) = 64; trace(21) = 0; trace(22) = -5
            """);
    }

    private static void touches() {
        CHECK.run("8 touches", """
            touches(-1, 0) = -1; touches(60, 2) = -1; touches(0, -1) = -2; touches(0, 2) = -2
            put(0, 0) = -1; load(0, 1, 0); load(0, 1, 0); put(0, 0) = -21; pay(0) = -21; start(0, 0) = -21; stop(0) = -21
            mend(0) = -21; touches(0, 0) = 0; machine(0, 0, 1, 0); touches(0, 0) = 0
            put(0, 2) = -1; start(0, 40) = -1; fetch(0) = -22; touches(0, 0) = 0
            put(0, 0) = 1; touches(0, 0) = 1; put(0, 0) = -22; put(0, 1) = -31; touches(0, 0) = 3
            pay(0) = 0; pay(0) = -3; touches(0, 0) = 5; start(0, 0) = -23; touches(0, 0) = 6; stop(0) = -3; touches(0, 0) = 7
            mend(0) = 0; touches(0, 0) = 8; fetch(0) = 0; touches(0, 0) = 9; fetch(0) = -22; touches(0, 0) = 9
            told(0, 0); wish(0, 0, 0); book(0, 0); left(0); refund(0); credit(0); breaks(0, 2); tube(0, 1, 0); coin(0, 0, 1)
            touches(0, 0) = 9; minute(1); touches(0, 0) = 9; minute(1); touches(0, 0) = 10; touches(0, 1) = 10
            minute(3); touches(0, 0) = 10; refund(0); remove(0) = 0; touches(0, 0) = 10; touches(0, 1) = 10
            machine(0, 2, 1, 0); touches(0, 0) = 10; back(5) = 0; touches(0, 0) = 10; touches(1, 0) = 0
            """);
    }

    private static void touchesOfBanks() {
        CHECK.run("8 touches of banks and their drums", """
            machine(0, 4, 0, 0); pay(0); touches(0, 0) = 1; drum(0, 5); pay(0) = -3; touches(0, 0) = 3; drum(0, 5); drum(0, 5)
            mend(0); touches(0, 0) = 7; touches(0, 1) = 7; load(0, 1, 0); put(0, 0) = 1; touches(0, 0) = 11
            program(0, 1); start(0, 0) = 1; touches(0, 0) = 15; fetch(0) = -27; touches(0, 0) = 19
            minute(1); touches(0, 0) = 23; touches(0, 1) = 23; breaks(0, 1); minute(1); touches(0, 0) = 27; touches(0, 1) = 27
            """);
        CHECK.run("8 minutes that go and that wait; break-downs", """
            bound(10, 100, 100); machine(0, 0, 5, 0); machine(1, 0, 5, 0); load(0, 1, 0); load(0, 1, 0)
            put(0, 0); put(1, 1); pay(0); pay(1); program(0, 1); step(0, 0, 0, 5); start(0, 0) = 1; start(1, 0) = 1
            touches(1, 0) = 3; minute(2); told(1, 4) = 2; touches(0, 0) = 5; touches(1, 0) = 5
            breaks(1, 1); minute(1); touches(1, 0) = 6; told(1, 4) = 4; breaks(1, 1); minute(1); touches(1, 0) = 7; minute(1); touches(1, 0) = 7
            """);
    }
}
