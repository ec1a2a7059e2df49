/** Promises 26 to 33: runs. */
public final class RunsTest {
    private static final Check CHECK = new Check();

    /** Washers at 0, 1 and 2, each with a load and paid for; program 0 fills for 4 minutes. */
    private static final String THREE = """
        load(0, 1, 0); load(0, 1, 0); load(0, 1, 0); program(0, 1); step(0, 0, 0, 4)
        machine(0, 0, 5, 0); put(0, 0); pay(0); machine(1, 0, 5, 0); put(1, 1); pay(1); machine(2, 0, 5, 0); put(2, 2); pay(2)
        """;

    public static void main(String[] args) {
        start();
        startByStep();
        startWithNoSteps();
        minute();
        minuteByMinute();
        whatWaitedLongestGoesFirst();
        eachBoundHolds();
        left();
        stop();
        breaks();
        breaksAndBack();
        mend();
        bound();
        used();
        CHECK.end();
    }

    private static void start() {
        CHECK.run("26 start", """
            start(-1, 0) = -1; start(60, 0) = -1; start(0, -1) = -1; start(0, 40) = -1; start(0, 0) = -21
            machine(0, 0, 5, 3); start(0, 0) = -23; program(0, 1); start(0, 0) = -22; load(0, 1, 0); put(0, 0); start(0, 0) = -28
            tube(0, 1, 0); coin(0, 0, 3); start(0, 0) = -28; pay(0) = 0; start(0, 1) = -23; start(0, 0) = 1
            told(0, 3) = 0; told(0, 4) = 2; told(0, 7) = 1; told(0, 9) = 0; book(0, 6) = 1; count(5) = 1; start(0, 0) = -27; start(0, 1) = -27
            book(0, 6) = 1; minute(1); told(0, 3) = 1; told(0, 7) = 0; count(5) = 0; start(0, 0) = -28
            breaks(0, 1); minute(1); start(0, 1) = -27; status() = 7
            """);
    }

    private static void startByStep() {
        CHECK.run("26 faces", """
            machine(0, 0, 5, 0); machine(1, 1, 5, 0); machine(2, 2, 5, 0); machine(3, 3, 5, 0); machine(4, 4, 5, 0)
            load(0, 1, 0); load(0, 1, 0); load(0, 1, 0); load(0, 1, 0); load(0, 1, 0); put(0, 0); put(1, 1); put(2, 2); put(3, 3); put(4, 4)
            pay(0); pay(1); pay(2); pay(3); pay(4); program(0, 1)
            step(0, 0, 2, 1); start(0, 0) = -25; start(1, 0) = -25; start(4, 0) = -25
            step(0, 0, 0, 1); start(2, 0) = -25; start(3, 0) = -25; step(0, 0, 3, 1); start(2, 0) = -25; start(3, 0) = -25
            step(0, 0, 1, 1); start(3, 0) = -25; start(0, 0) = 1; start(1, 0) = 1; start(2, 0) = 1; start(4, 0) = 1
            step(0, 0, 2, 1); start(3, 0) = 1; count(5) = 5; count(12) = 8
            """);
        CHECK.run("26 step by step, which finding is first", """
            machine(0, 0, 5, 0); load(0, 1, 0); put(0, 0); pay(0); program(0, 3); bound(9, 100, 100)
            step(0, 1, 0, 1); step(0, 2, 2, 1); start(0, 0) = -32; step(0, 0, 2, 1); start(0, 0) = -25; told(0, 3) = 1; told(0, 4) = 1
            step(0, 0, 4, 1); bound(10, 3, 100); start(0, 0) = -25; step(0, 2, 1, 1); start(0, 0) = -32; bound(10, 4, 2) = 1; start(0, 0) = -32
            bound(10, 4, 3) = 1; start(0, 0) = 1; book(0, 6) = 1; touches(0, 0) = 8
            """);
    }

    private static void startWithNoSteps() {
        CHECK.run("26 no steps: it ends at once", """
            machine(0, 3, 5, 0); load(0, 1, 0); put(0, 0); pay(0); program(0, 0); bound(0, 0, 0); start(0, 0) = 1
            told(0, 3) = 1; told(0, 4) = 1; told(0, 7) = 0; told(0, 6) = 1; book(0, 6) = 1; book(0, 7) = 0; left(0) = 0; count(5) = 0
            stop(0) = -3; start(0, 0) = -28; bound(1, 1, 1) = -3; trace(0) = -5; fetch(0) = 0
            """);
    }

    private static void minute() {
        CHECK.run("27 minute", """
            minute(0) = -2; minute(-1) = -2; minute(61) = -2; count(0) = 0; minute(1) = 1; minute(60) = 61; minute(2147483647) = -2; count(0) = 61
            """);
    }

    private static void minuteByMinute() {
        CHECK.run("27 a run, minute by minute", """
            machine(0, 4, 5, 0); drum(0, 5); load(0, 1, 0); put(0, 0); pay(0); program(0, 5); step(0, 0, 0, 2); step(0, 1, 1, 1)
            step(0, 2, 3, 1); step(0, 3, 0, 1); step(0, 4, 4, 1); start(0, 0) = 1
            minute(1); told(0, 5) = 20; used(0) = 20; used(1) = 0; used(2) = 3; left(0) = 5; minute(1); told(0, 5) = 40
            minute(1); told(0, 5) = 40; used(0) = 0; used(1) = 8; used(2) = 5; book(0, 5) = 2; minute(1); told(0, 5) = 0; count(10) = 40; used(2) = 5
            told(0, 3) = 0; minute(1); told(0, 5) = 20; minute(1); told(0, 5) = 0; count(10) = 60; told(0, 3) = 1; told(0, 4) = 1; told(0, 7) = 0
            book(0, 0) = 6; book(0, 1) = 0; book(0, 2) = 60; book(0, 3) = 8; book(0, 4) = 22; book(0, 7) = 0; minute(1); used(2) = 0; touches(0, 0) = 27
            """);
    }

    private static void whatWaitedLongestGoesFirst() {
        CHECK.run("27 what waited longest goes first", THREE + """
            bound(10, 100, 100); start(2, 0) = 1; start(1, 0) = 1; start(0, 0) = 1
            minute(1); told(0, 4) = 2; told(1, 4) = 3; told(2, 4) = 3; told(1, 9) = 1; told(2, 9) = 1
            minute(1); told(1, 4) = 2; told(0, 9) = 1; told(2, 9) = 2; minute(1); told(2, 4) = 2; told(0, 9) = 2; told(1, 9) = 1
            minute(1); told(0, 4) = 2; left(0) = 2; left(1) = 3; left(2) = 3; book(0, 1) = 2; book(2, 1) = 3; minute(8)
            left(0) = 0; left(1) = 0; left(2) = 0; told(2, 4) = 1; book(0, 0) = 4; book(1, 0) = 4; book(2, 0) = 4; count(10) = 120
            """);
        CHECK.run("27 the waiting of an earlier run does not count", THREE + """
            bound(10, 100, 100); start(0, 0); start(1, 0); minute(1); stop(1) = 4; pay(1); start(1, 0) = 1; told(1, 9) = 0
            minute(1); told(0, 4) = 2; told(1, 4) = 3
            """);
        CHECK.run("27 a smaller wish may go where a greater one waits", """
            machine(0, 4, 5, 0); drum(0, 5); machine(1, 0, 5, 0); machine(2, 0, 5, 0); load(0, 1, 0); load(0, 1, 0); load(0, 1, 0)
            put(0, 0); put(1, 1); put(2, 2); pay(0); pay(1); pay(2); program(0, 1); step(0, 0, 0, 3); bound(25, 100, 100)
            start(1, 0); start(0, 0); start(2, 0); minute(1); told(0, 4) = 2; told(1, 4) = 3; told(2, 4) = 3; used(0) = 20
            minute(1); told(0, 4) = 3; told(1, 4) = 2; told(2, 4) = 2; used(0) = 20
            """);
    }

    private static void eachBoundHolds() {
        CHECK.run("27 heat", THREE + """
            bound(100, 7, 100); step(0, 0, 1, 2); start(0, 0); start(1, 0); minute(1); told(1, 4) = 3; used(1) = 4; used(2) = 3
            """);
        CHECK.run("27 power", THREE + """
            bound(100, 100, 2); start(0, 0); start(1, 0); start(2, 0); minute(1); told(0, 4) = 2; told(1, 4) = 2; told(2, 4) = 3; used(0) = 20; used(2) = 2
            """);
        CHECK.run("27 up to the bound", THREE + """
            bound(30, 0, 3); start(0, 0); start(1, 0); start(2, 0); minute(1); told(2, 4) = 2; used(0) = 30; used(2) = 3
            """);
    }

    private static void left() {
        CHECK.run("28 left", """
            left(-1) = -1; left(60) = -1; left(0) = -21; machine(0, 0, 5, 0); left(0) = 0; load(0, 1, 0); put(0, 0); pay(0); program(0, 2)
            step(0, 0, 0, 200); step(0, 1, 4, 3); start(0, 0) = 1; left(0) = 203; minute(60); left(0) = 143; minute(60); minute(60); left(0) = 23
            minute(20); left(0) = 3; minute(2); left(0) = 1; minute(1); left(0) = 0
            """);
    }

    private static void stop() {
        CHECK.run("29 stop", """
            stop(-1) = -1; stop(60) = -1; stop(0) = -21; machine(0, 0, 5, 0); stop(0) = -3; load(0, 1, 0); put(0, 0); pay(0); stop(0) = -3; told(0, 7) = 1
            program(0, 1); step(0, 0, 0, 5); start(0, 0); minute(2); told(0, 5) = 20; stop(0) = 3; told(0, 5) = 0; told(0, 3) = 1; told(0, 4) = 1
            told(0, 7) = 0; count(10) = 20; book(0, 7) = 1; book(0, 6) = 1; count(5) = 0; stop(0) = -3; left(0) = 0; told(0, 6) = 1; book(0, 7) = 1
            """);
    }

    private static void breaks() {
        CHECK.run("30 breaks", """
            breaks(-1, 1) = -1; breaks(60, -1) = -1; breaks(0, -1) = -2; breaks(0, 1001) = -2; breaks(0, 0) = -21; breaks(0, 1000) = -21
            machine(0, 0, 5, 0); breaks(0, 0) = 1; breaks(0, 2) = 1; minute(1); told(0, 4) = 1; minute(1); told(0, 4) = 4; told(0, 3) = 1
            mend(0) = 1; minute(5); told(0, 4) = 1; breaks(0, 2); breaks(0, 3) = 1; minute(2); told(0, 4) = 1; minute(1); told(0, 4) = 4
            mend(0); breaks(0, 1); breaks(0, 0) = 1; minute(3); told(0, 4) = 1; breaks(0, 1); remove(0) = 0; machine(0, 0, 5, 0); minute(1); told(0, 4) = 1
            """);
        CHECK.run("30 a run that breaks ends", """
            machine(0, 0, 5, 0); load(0, 1, 0); put(0, 0); pay(0); program(0, 1); step(0, 0, 0, 5); start(0, 0); breaks(0, 3); minute(2); told(0, 5) = 20
            minute(1); told(0, 4) = 4; told(0, 3) = 1; told(0, 5) = 0; told(0, 7) = 0; left(0) = 0; count(10) = 20; book(0, 7) = 1; book(0, 0) = 2
            used(0) = 0; told(0, 6) = 1; put(0, 0) = -22; fetch(0) = 0; count(5) = 0
            """);
        CHECK.run("30 what was paid stays without a run; mend() leaves what was told", """
            machine(0, 0, 5, 0); pay(0); breaks(0, 1); minute(1); told(0, 7) = 1; told(0, 4) = 4; book(0, 7) = 0; breaks(0, 2); mend(0) = 1; told(0, 4) = 1
            minute(2); told(0, 4) = 4; mend(0) = 1; breaks(0, 1000); minute(60); minute(60); minute(60); minute(60); minute(60); minute(60); minute(60); minute(60)
            minute(60); minute(60); minute(60); minute(60); minute(60); minute(60); minute(60); minute(60); minute(39); told(0, 4) = 1; minute(1); told(0, 4) = 4
            """);
    }

    private static void breaksAndBack() {
        CHECK.run("30 back() brings back what was told", """
            machine(0, 0, 5, 0); breaks(0, 3); minute(1); breaks(0, 1); minute(1); told(0, 4) = 4; back(1) = 1; told(0, 4) = 1
            minute(1); told(0, 4) = 1; minute(1); told(0, 4) = 4
            """);
    }

    private static void mend() {
        CHECK.run("31 mend", """
            mend(-1) = -1; mend(60) = -1; mend(0) = -21; machine(0, 0, 5, 0); mend(0) = 0; breaks(0, 1); minute(1); mend(0) = 1; mend(0) = 0; told(0, 4) = 1
            load(0, 1, 0); put(0, 0) = 1; pay(0); program(0, 1); start(0, 0) = 1; mend(0) = 0; told(0, 4) = 2; told(0, 3) = 0
            """);
    }

    private static void bound() {
        CHECK.run("32 bound", """
            bound(-1, 0, 0) = -2; bound(0, 10001, 0) = -2; bound(0, 0, -1) = -2; bound(10001, 0, 0) = -2; bound(0, 0, 10001) = -2; bound(0, -1, 0) = -2; bound(10000, 0, 10000) = 1; bound(100, 100, 100); used(3) = 100
            bound(0, 10000, 7) = 1; used(3) = 0; used(4) = 10000; used(5) = 7; bound(1, 2, 3) = 1; used(3) = 1; used(4) = 2; used(5) = 3; bound(90, 90, 90)
            machine(0, 0, 5, 0); load(0, 1, 0); put(0, 0); pay(0); program(0, 1); step(0, 0, 2, 1); start(0, 0) = -25; bound(80, 80, 80) = 1
            minute(1); step(0, 0, 4, 1); start(0, 0) = 1; bound(1, 1, 1) = -3; bound(1, 1, -1) = -2; minute(2); bound(1, 1, 1) = -3; used(3) = 80
            back(2) = 1; bound(70, 70, 70) = 1; used(3) = 70
            """);
    }

    private static void used() {
        CHECK.run("33 used", THREE + """
            used(-1) = -2; used(6) = -2; used(0) = 0; used(3) = 100; step(0, 0, 1, 1); start(0, 0); start(1, 0); used(1) = 0
            minute(1); used(0) = 0; used(1) = 8; used(2) = 6; minute(1); used(1) = 0; used(2) = 0; back(1) = 1; used(1) = 8; used(2) = 6
            back(1) = 0; used(1) = 0
            """);
    }
}
