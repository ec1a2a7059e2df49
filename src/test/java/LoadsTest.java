/** Promises 20 to 25: loads. */
public final class LoadsTest {
    private static final Check CHECK = new Check();

    public static void main(String[] args) {
        load();
        fullHouse();
        mix();
        put();
        putOrder();
        fetch();
        whatStaysInside();
        about();
        tickets();
        share();
        CHECK.end();
    }

    private static void load() {
        CHECK.run("20 load", """
            load(-1, 1, 0) = -2; load(10, 1, 0) = -2; load(0, 0, 0) = -2; load(0, 20001, 0) = -2; load(0, 1, -1) = -2; load(0, 1, 10) = -2
            count(3) = 0; count(4) = 0; load(9, 20000, 9) = 0; load(0, 1, 0) = 1; count(3) = 2; count(4) = 2
            """);
    }

    private static void fullHouse() {
        WashHouse house = new WashHouse();
        for (int i = 0; i < 500; i++) {
            CHECK.due("20 load " + i, house.load(0, 1, 0), i);
        }
        CHECK.go("20 full", house, "load(0, 1, 0) = -4; load(0, 0, 0) = -2; count(3) = 500; count(4) = 500; about(499, 4) = 500; about(500, 4) = -1");
    }

    private static void mix() {
        CHECK.run("21 mix", """
            mix(-1, 0, true) = -2; mix(0, 10, true) = -2; mix(3, 3, true) = -2; mix(0, 0, false) = -2
            mix(0, 9, false) = 1; mix(9, 0, false) = 0; mix(9, 0, true) = 0; mix(0, 9, true) = 1
            mix(1, 2, false) = 1; mix(2, 1, true) = 0; mix(1, 2, true) = 1; mix(1, 3, true) = 1
            """);
        CHECK.run("21 loads that are in a machine stay", """
            machine(0, 0, 50, 0); load(0, 1, 1); load(0, 1, 2); load(0, 1, 2); load(0, 1, 3); put(0, 0) = 1; put(0, 1) = 2
            mix(2, 1, false) = 1; told(0, 6) = 2; put(0, 2) = -30; put(0, 3) = 3; fetch(0) = 0; put(0, 2) = 3; mix(3, 3, false) = -2
            """);
    }

    private static void put() {
        CHECK.run("22 put", """
            put(-1, 0) = -1; put(60, 0) = -1; put(0, 0) = -1; load(0, 10, 0) = 0; put(0, -1) = -1; put(0, 1) = -1; put(0, 0) = -21
            machine(0, 0, 10, 0); load(0, 1, 0); put(0, 1) = 1; put(0, 0) = -31; about(0, 3) = -1; fetch(1); put(0, 0) = 1; about(0, 3) = 0
            put(0, 0) = -22; put(0, 1) = -22; status() = 2; put(1, 1) = -21
            """);
        CHECK.run("22 eight loads", """
            machine(0, 0, 100, 0); load(0, 1, 0); load(0, 1, 0); load(0, 1, 0); load(0, 1, 0); load(0, 1, 0); load(0, 1, 0); load(0, 1, 0)
            load(0, 1, 0); load(0, 1, 0); load(0, 93, 0); load(0, 1, 1); put(0, 0) = 1; put(0, 1) = 2; put(0, 2) = 3; put(0, 3) = 4
            put(0, 4) = 5; put(0, 5) = 6; put(0, 6) = 7; put(0, 7) = 8; count(12) = 0; put(0, 8) = -4; count(12) = 0
            put(0, 9) = -31; mix(0, 1, false); put(0, 10) = -30; told(0, 6) = 8; fetch(3) = 0; put(0, 8) = 8; fetch(7) = 0; fetch(0) = 0; told(0, 6) = 6
            """);
    }

    private static void putOrder() {
        CHECK.run("22 which finding is first", """
            machine(0, 4, 0, 0); load(0, 50, 0); load(0, 5, 1); load(0, 7, 0); put(0, 0) = -26; breaks(0, 1); minute(1); put(0, 0) = -27
            mend(0); put(0, 0) = -26; drum(0, 5); put(0, 0) = -31; put(0, 1) = 1; mix(0, 1, false); put(0, 2) = -31
            fetch(1); drum(0, 10); put(0, 2) = 1; load(0, 1, 1); load(0, 9, 1); put(0, 3) = -30; put(0, 4) = -31; pay(0); program(0, 1); start(0, 0) = 1
            put(0, 3) = -27; put(0, 2) = -22; minute(1); put(0, 3) = -30; breaks(0, 1); minute(1); put(0, 2) = -22; put(0, 3) = -27
            """);
    }

    private static void fetch() {
        CHECK.run("23 fetch", """
            fetch(-1) = -1; fetch(0) = -1; load(0, 1, 0); fetch(0) = -22; fetch(1) = -1; machine(7, 0, 5, 0); put(7, 0) = 1
            pay(7); program(0, 2); start(7, 0) = 1; fetch(0) = -27; about(0, 3) = 7; minute(2); fetch(0) = 7; about(0, 3) = -2; told(7, 6) = 0
            fetch(0) = -22; load(0, 1, 0); put(7, 1) = 1; breaks(7, 1); minute(1); fetch(1) = 7; told(7, 4) = 4; count(3) = 2
            """);
    }

    private static void whatStaysInside() {
        CHECK.run("23 what stays inside keeps its weight and colour", """
            machine(0, 0, 100, 0); load(0, 10, 1); load(0, 20, 2); load(0, 30, 3); load(0, 51, 4); load(0, 50, 3); put(0, 0); put(0, 1); put(0, 2) = 3
            fetch(0) = 0; put(0, 3) = -31; put(0, 4) = 3; fetch(1) = 0; told(0, 6) = 2; mix(2, 5, false); load(0, 1, 5); put(0, 5) = 3
            mix(3, 6, false); load(0, 1, 6); put(0, 6) = -30; fetch(2) = 0; put(0, 6) = -30; fetch(4) = 0; put(0, 6) = 2; about(5, 3) = 0; about(2, 3) = -2
            """);
    }

    private static void about() {
        CHECK.run("24 about", """
            about(-1, 0) = -1; about(0, 5) = -1; load(3, 400, 5); load(9, 20000, 9); about(0, -1) = -2; about(0, 5) = -2; about(2, 0) = -1
            about(0, 0) = 3; about(0, 1) = 400; about(0, 2) = 5; about(0, 3) = -1; about(0, 4) = 1
            about(1, 0) = 9; about(1, 1) = 20000; about(1, 2) = 9; about(1, 4) = 2
            machine(59, 0, 500, 0); put(59, 0); about(0, 3) = 59; fetch(0); about(0, 3) = -2
            """);
    }

    private static void tickets() {
        CHECK.run("24 tickets are given once, whatever back() undoes", """
            load(0, 1, 0) = 0; minute(1); load(0, 1, 0) = 1; load(0, 0, 0) = -2; about(1, 4) = 2; minute(1); load(0, 1, 0) = 2; back(1) = 1; count(3) = 1
            count(4) = 3; about(1, 4) = -1; load(0, 7, 0) = 1; about(1, 4) = 4; about(1, 1) = 7; about(0, 4) = 1; back(1) = 0; count(4) = 4
            count(3) = 1; load(0, 1, 0) = 1; about(1, 4) = 5; about(0, 4) = 1
            """);
    }

    private static void share() {
        CHECK.run("25 share", """
            share(-1, 0) = -1; share(0, 0) = -1; load(0, 10, 0); share(0, -1) = -22; machine(0, 0, 50, 0); put(0, 0); share(0, -1) = -25
            fetch(0); share(0, 0) = -22; machine(1, 4, 3, 0); drum(1, 3); drum(1, 3); load(0, 8, 0); put(1, 1); share(1, 0) = 3; share(1, 1) = 3
            share(1, 2) = 2; share(1, 3) = -24; share(1, -1) = -24; load(0, 1, 0); put(1, 2); share(2, 0) = 1; share(2, 1) = 0; share(2, 2) = 0
            """);
        CHECK.run("25 by the greatest remainders", """
            machine(0, 4, 1, 0); drum(0, 5); drum(0, 4); load(0, 7, 0); put(0, 0); share(0, 0) = 1; share(0, 1) = 3; share(0, 2) = 3
            machine(1, 4, 20000, 0); drum(1, 20000); drum(1, 19999); drum(1, 20000); drum(1, 20000); drum(1, 1); load(0, 20000, 0); put(1, 1)
            share(1, 0) = 4000; share(1, 1) = 4000; share(1, 2) = 4000; share(1, 3) = 4000; share(1, 4) = 4000; share(1, 5) = 0
            """);
    }
}
