/** Part 5 of the terms, and promises 26 to 33: runs, minute by minute. */
final class EdgesOfRuns {
    static void hold(Edges edges) {
        stepsAtTheStart(edges);
        breakDowns(edges);
        whoGoesFirst(edges);
        whatIsAsked(edges);
        bounds(edges);
        whatGoingDoes(edges);
        longRowsAndShortOnes(edges);
        theEnd(edges);
        boundsForGood(edges);
        start(edges);
        startFindings(edges);
        startStepByStep(edges);
        minute(edges);
        left(edges);
        stop(edges);
        breaks(edges);
        mend(edges);
        bound(edges);
        used(edges);
    }

    /** Machines of these kinds at places 0, 1, .., each with the load of its number and paid for. */
    private static String ready(int... kinds) {
        StringBuilder calls = new StringBuilder();
        for (int i = 0; i < kinds.length; i++) {
            calls.append("machine(I, K, 9, 0); load(0, 1, 0); put(I, I); pay(I);".replace("I", "" + i).replace("K", "" + kinds[i]));
        }
        return calls.toString();
    }

    /** Program 0 of steps, told as kind and minutes in turn. */
    private static String steps(int... numbers) {
        StringBuilder calls = new StringBuilder("program(0, " + numbers.length / 2 + ");");
        for (int i = 0; i < numbers.length; i += 2) {
            calls.append("step(0, " + i / 2 + ", " + numbers[i] + ", " + numbers[i + 1] + ");");
        }
        return calls.toString();
    }

    private static void stepsAtTheStart(Edges edges) {
        edges.says("5", "TIME is 0 at first.", "count(0) = 0; back(1) = -3; count(11) = 0; minute(1) = 1; count(0) = 1");
        edges.says("5", "A RUN goes by the STEPS of its PROGRAM as they were at its start.", ready(0, 0) + steps(0, 2, 1, 1) + """
            start(0, 0); step(0, 0, 4, 7); step(0, 1, 4, 200); left(0) = 3; minute(1); told(0, 5) = 10; program(0, 30); left(0) = 2; minute(1)
            told(0, 5) = 20; takeOut(0); left(0) = 1; minute(1); used(1) = 4; left(0) = 0; told(0, 3) = 1; book(0, 0) = 3
            """);
        edges.says("5", "A RUN goes by the STEPS of its PROGRAM as they were at its start.", ready(0, 0) + steps(0, 2) + """
            start(0, 0); step(0, 0, 1, 3); start(1, 0); left(0) = 2; left(1) = 3; minute(1); used(0) = 10; used(1) = 4; told(1, 5) = 0; minute(1)
            left(0) = 0; left(1) = 1
            """);
        edges.says("5", "A MINUTE: TIME grows by 1.", """
            minute(1) = 1; count(0) = 1; minute(1) = 2; minute(2) = 4; minute(60) = 64; count(0) = 64; back(1) = 63; minute(1) = 64
            """);
    }

    private static void breakDowns(Edges edges) {
        String sentence = "MACHINES whose break-down is at that TIME break (BROKEN ones, those without a RUN, too), by numbers: a RUN ENDS, the LAMP is 4.";
        edges.says("5", sentence, ready(0) + steps(0, 9) + """
            machine(1, 2, 9, 0); start(0, 0); breaks(0, 2); breaks(1, 2); minute(1); told(0, 4) = 2; told(1, 4) = 1; minute(1); told(0, 4) = 4
            told(1, 4) = 4; left(0) = 0; told(0, 3) = 1; told(1, 3) = 1; told(0, 5) = 0; count(10) = 10; book(0, 0) = 1; book(0, 7) = 1
            book(1, 7) = 0; touches(1, 0) = 1; breaks(1, 1); minute(1); told(1, 4) = 4; touches(1, 0) = 2; minute(2); touches(1, 0) = 2
            """);
        // What breaks takes no water any more, so that another one goes.
        edges.says("5", sentence, "bound(10, 9, 9);" + ready(0, 0) + steps(0, 9) + """
            start(0, 0); start(1, 0); breaks(0, 1); minute(1); told(0, 4) = 4; told(1, 4) = 2; told(1, 5) = 10; used(0) = 10; book(0, 0) = 0
            book(0, 1) = 0; book(0, 2) = 0; touches(0, 0) = 4
            """);
        edges.says("5", sentence, ready(0) + steps(0, 1) + """
            start(0, 0); breaks(0, 1); minute(1); told(0, 4) = 4; book(0, 0) = 0; book(0, 7) = 1; used(0) = 0; trace(6) = -5
            """);
        edges.says("5", sentence, ready(0) + steps(0, 1) + """
            start(0, 0); breaks(0, 2); minute(1); told(0, 4) = 1; book(0, 0) = 1; book(0, 7) = 0; minute(1); told(0, 4) = 4; book(0, 7) = 0
            """);
    }

    private static void whoGoesFirst(Edges edges) {
        String sentence = "Then RUNS, those that waited the most minutes since they last went (or began) first, of like ones by numbers (as it was at the MINUTE's begin):";
        edges.says("5", sentence, "bound(10, 9, 9);" + ready(0, 0, 0) + steps(0, 9) + """
            start(2, 0); start(1, 0); start(0, 0); minute(1); told(0, 4) = 2; told(1, 4) = 3; told(2, 4) = 3; minute(1); told(0, 4) = 3
            told(1, 4) = 2; told(2, 4) = 3; minute(1); told(0, 4) = 3; told(1, 4) = 3; told(2, 4) = 2; minute(1); told(0, 4) = 2; told(1, 4) = 3
            told(2, 4) = 3; minute(1); told(1, 4) = 2; minute(1); told(2, 4) = 2; book(0, 0) = 2; book(1, 0) = 2; book(2, 0) = 2; book(0, 1) = 4
            book(2, 1) = 4
            """);
        // A run that begins later has waited less, whatever its number, and no matter how long its machine waited before.
        edges.says("5", sentence, "bound(10, 9, 9);" + ready(0, 0, 0) + steps(0, 9) + """
            start(1, 0); start(2, 0); minute(1); told(1, 4) = 2; told(2, 9) = 1; start(0, 0); minute(1); told(2, 4) = 2; told(0, 9) = 1
            told(1, 9) = 1; minute(1); told(0, 4) = 2; told(1, 9) = 2; told(2, 9) = 1; stop(2); pay(2); start(2, 0); told(2, 9) = 0; minute(1)
            told(1, 4) = 2; told(0, 9) = 1; told(2, 9) = 1; minute(1); told(0, 4) = 2; told(1, 9) = 1; told(2, 9) = 2; minute(1); told(2, 4) = 2
            """);
        // Place 0 does not wait, it goes each minute; of the others that with the most minutes is asked first.
        edges.says("5", sentence, "bound(10, 9, 9);" + ready(0, 0, 0, 0) + steps(0, 9) + """
            start(3, 0); minute(1); start(2, 0); start(1, 0); minute(1); told(1, 4) = 2; told(2, 9) = 1; told(3, 9) = 1; minute(1); told(2, 4) = 2
            told(1, 9) = 1; told(3, 9) = 2; minute(1); told(3, 4) = 2; start(0, 0); told(0, 9) = 0; minute(1); told(1, 4) = 2; told(0, 9) = 1
            told(2, 9) = 2; told(3, 9) = 1; minute(1); told(2, 4) = 2
            """);
        // By the trace: a washer that waited is asked ahead of a dryer with a lesser number.
        edges.says("5", sentence, "bound(100, 4, 100);" + ready(3, 0, 0) + steps(1, 2) + """
            start(1, 0); start(2, 0); minute(1); told(1, 4) = 2; told(2, 4) = 3; program(1, 1); start(0, 1); minute(1); told(2, 4) = 2; told(1, 4) = 3
            told(0, 4) = 1; trace(0) = 52; trace(1) = 2; trace(2) = 1; trace(3) = 50; trace(4) = 0; trace(5) = 52; trace(6) = 22; trace(7) = 51
            trace(8) = 21; trace(9) = 31; trace(10) = 50; trace(11) = 3; trace(12) = 64; trace(13) = 52; trace(14) = 2; trace(15) = 1; trace(16) = 50
            trace(17) = 0
            """);
    }

    private static void whatIsAsked(Edges edges) {
        edges.says("5", "its WISHES are asked (WATER, HEAT, POWER);", ready(1, 4) + steps(0, 1) + """
            start(0, 0); start(1, 0); minute(1); trace(0) = 52; trace(1) = 2; trace(2) = 42; trace(3) = 51; trace(4) = 1; trace(5) = 41; trace(6) = 0
            trace(7) = 40; trace(8) = 52; trace(9) = 2; trace(10) = 12; trace(11) = 51; trace(12) = 1; trace(13) = 11; trace(14) = 0
            """);
        // All three are asked, though the first one is above its bound already.
        edges.says("5", "its WISHES are asked (WATER, HEAT, POWER);", "bound(10, 100, 100);" + ready(0, 0) + steps(0, 2) + """
            start(0, 0); start(1, 0); minute(1); told(1, 4) = 3; trace(0) = 52; trace(1) = 2; trace(2) = 51; trace(3) = 1; trace(4) = 0; trace(5) = 52
            trace(9) = 0
            """);
        edges.says("5", "a TURN asks WEAR of 1;", ready(0, 1, 2, 4) + steps(1, 2) + """
            start(0, 0); start(1, 0); start(2, 0); start(3, 0); minute(1); book(0, 5) = 2; book(1, 5) = 6; book(2, 5) = 1; book(3, 5) = 2; minute(1)
            book(0, 5) = 4; book(1, 5) = 12; book(2, 5) = 2; book(3, 5) = 4; minute(1); book(0, 5) = 4; trace(0) = 3; trace(1) = 64; trace(2) = 52
            """);
        edges.says("5", "a TURN asks WEAR of 1;", "bound(100, 4, 100);" + ready(0, 0) + steps(1, 1, 0, 1, 3, 1, 4, 1) + """
            start(0, 0); start(1, 0); minute(1); told(1, 4) = 3; book(1, 5) = 0; trace(0) = 52; trace(5) = 3; trace(6) = 64; minute(1); book(0, 5) = 2
            book(1, 5) = 2; minute(3); book(0, 5) = 2; book(1, 5) = 2
            """);
    }

    private static void bounds(Edges edges) {
        String sentence = "if with what went in this MINUTE none of the three is above its BOUND, it GOES:";
        edges.says("5", sentence, "bound(20, 100, 100);" + ready(0, 0, 0) + steps(0, 2) + """
            start(0, 0); start(1, 0); start(2, 0); minute(1); told(0, 4) = 2; told(1, 4) = 2; told(2, 4) = 3; used(0) = 20; used(2) = 2
            """);
        edges.says("5", sentence, "bound(19, 100, 100);" + ready(0, 0) + steps(0, 2) + """
            start(0, 0); start(1, 0); minute(1); told(0, 4) = 2; told(1, 4) = 3; used(0) = 10; used(2) = 1
            """);
        edges.says("5", sentence, "bound(0, 8, 100);" + ready(0, 0, 0) + steps(1, 2) + """
            start(0, 0); start(1, 0); start(2, 0); minute(1); told(1, 4) = 2; told(2, 4) = 3; used(1) = 8; used(2) = 6
            """);
        edges.says("5", sentence, "bound(0, 7, 100);" + ready(0, 0) + steps(1, 2) + """
            start(0, 0); start(1, 0); minute(1); told(0, 4) = 2; told(1, 4) = 3; used(1) = 4; used(2) = 3
            """);
        edges.says("5", sentence, "bound(0, 0, 2);" + ready(0, 3, 2) + steps(4, 2) + """
            start(0, 0); start(1, 0); start(2, 0); minute(1); told(1, 4) = 2; told(2, 4) = 3; used(2) = 2; used(0) = 0; used(1) = 0
            """);
        edges.says("5", sentence, "bound(0, 0, 1);" + ready(0, 3) + steps(4, 2) + """
            start(0, 0); start(1, 0); minute(1); told(0, 4) = 2; told(1, 4) = 3; used(2) = 1
            """);
        edges.says("5", sentence, ready(4, 0, 0, 0, 0, 0) + "fetch(0); drum(0, 9); drum(0, 9); drum(0, 9); drum(0, 9); drum(0, 9); load(0, 1, 0); put(0, 6);" + steps(0, 2) + """
            start(0, 0); start(1, 0); start(2, 0); start(3, 0); start(4, 0); start(5, 0); minute(1); used(0) = 100; told(0, 5) = 60; told(4, 4) = 2
            told(5, 4) = 3; used(2) = 11
            """);
        // What waits takes nothing: a lesser wish behind it goes.
        edges.says("5", sentence, "bound(25, 100, 100);" + ready(4, 0, 0) + "fetch(0); drum(0, 9); load(0, 1, 0); put(0, 3);" + steps(0, 3) + """
            start(0, 0); start(1, 0); start(2, 0); minute(1); told(0, 4) = 2; told(1, 4) = 3; told(2, 4) = 3; used(0) = 20; minute(1); told(1, 4) = 2
            told(2, 4) = 2; told(0, 4) = 3; used(0) = 20; minute(1); told(0, 4) = 2; used(0) = 20
            """);
        edges.says("5", "Else it WAITS.", "bound(10, 100, 100);" + ready(0, 0) + steps(0, 3) + """
            start(0, 0); start(1, 0); minute(1); told(1, 4) = 3; told(1, 9) = 1; told(1, 3) = 0; told(1, 5) = 0; left(1) = 3; book(1, 0) = 0
            book(1, 1) = 1; book(1, 2) = 0; book(1, 4) = 0; count(5) = 2; minute(1); told(1, 4) = 2; told(1, 9) = 0; left(1) = 2; book(1, 0) = 1
            book(1, 1) = 1; told(0, 4) = 3; told(0, 5) = 10
            """);
    }

    private static void whatGoingDoes(Edges edges) {
        String water = "the WATER that it took stands in it, and, if it is a DRAIN, all that stands goes then;";
        edges.says("5", water, ready(0) + steps(0, 2, 4, 1, 3, 2, 0, 1, 4, 1) + """
            start(0, 0); minute(1); told(0, 5) = 10; count(10) = 0; minute(1); told(0, 5) = 20; minute(1); told(0, 5) = 20; minute(1); told(0, 5) = 0
            count(10) = 20; minute(1); told(0, 5) = 0; count(10) = 20; minute(1); told(0, 5) = 10; count(10) = 20; minute(1); told(0, 5) = 0
            count(10) = 30; told(0, 3) = 1; book(0, 2) = 30
            """);
        // A drain that waits lets nothing go.
        edges.says("5", water, "bound(10, 100, 3);" + ready(0, 0) + steps(0, 1, 3, 1, 4, 1) + """
            start(0, 0); start(1, 0); minute(1); told(0, 5) = 10; told(1, 5) = 0; minute(1); told(1, 5) = 10; told(0, 5) = 10; told(0, 4) = 3
            count(10) = 0; minute(1); told(0, 5) = 0; count(10) = 10; told(1, 5) = 10; told(1, 4) = 3; minute(1); told(1, 5) = 0; count(10) = 20
            """);
        edges.says("5", "one MINUTE less of the STEP is left;", ready(0) + steps(0, 2, 4, 1, 1, 200) + """
            start(0, 0); left(0) = 203; minute(1); left(0) = 202; minute(1); left(0) = 201; used(0) = 10; minute(1); left(0) = 200; used(0) = 0
            used(2) = 1; minute(1); left(0) = 199; used(1) = 4; minute(60); minute(60); minute(60); minute(18); left(0) = 1; used(1) = 4
            told(0, 3) = 0; minute(1); left(0) = 0; used(1) = 4; minute(1); used(1) = 0
            """);
        edges.says("5", "behind the last one of the last STEP the RUN ENDS.", ready(0) + steps(4, 1, 4, 2) + """
            start(0, 0); minute(2); left(0) = 1; told(0, 3) = 0; told(0, 4) = 2; count(5) = 1; minute(1); left(0) = 0; told(0, 3) = 1; told(0, 4) = 1
            count(5) = 0; book(0, 0) = 3; book(0, 7) = 0; stop(0) = -3
            """);
        StringBuilder thirty = new StringBuilder(ready(3) + "program(0, 30); start(0, 0);");
        for (int i = 29; i >= 0; i--) {
            thirty.append("minute(1); left(0) = " + i + ";");
        }
        edges.says("5", "behind the last one of the last STEP the RUN ENDS.", thirty + "told(0, 4) = 1; book(0, 0) = 30");
    }

    /** A row of thirty steps is the longest one: what stands beside it must stay. */
    private static void longRowsAndShortOnes(Edges edges) {
        String sentence = "A RUN goes by the STEPS of its PROGRAM as they were at its start.";
        edges.says("5", sentence, ready(0, 0, 0) + """
            program(1, 30); step(1, 29, 0, 7); step(1, 0, 1, 3); program(0, 2); program(2, 2); step(2, 0, 0, 5); minutes(0) = 2; minutes(2) = 6
            start(1, 1); told(0, 0) = 0; told(0, 1) = 9; told(2, 0) = 0; told(2, 1) = 9; told(2, 6) = 1; left(0) = 0; left(1) = 38; left(2) = 0
            start(2, 1); start(0, 1); left(0) = 38; left(1) = 38; left(2) = 38; stop(2); fetch(2); remove(2); left(1) = 38; machine(2, 3, 1, 0)
            left(1) = 38; minute(31); used(0) = 0; left(1) = 7; minute(1); used(0) = 20; left(0) = 6; minute(6); left(0) = 0; left(1) = 0
            told(0, 4) = 1; count(10) = 140; minutes(0) = 2; minutes(1) = 38
            """);
        edges.says("5", "behind the last one of the last STEP the RUN ENDS.", ready(0) + """
            program(0, 4); step(0, 1, 1, 50); step(0, 2, 0, 9); start(0, 0); minute(3); stop(0) = 58; pay(0); program(0, 1); step(0, 0, 0, 2)
            start(0, 0); left(0) = 2; minute(1); left(0) = 1; minute(1); left(0) = 0; told(0, 4) = 1; count(5) = 0; pay(0); program(0, 0); start(0, 0)
            left(0) = 0; count(5) = 0; pay(0); program(0, 2); start(0, 0); left(0) = 2; minute(2); left(0) = 0; told(0, 3) = 1
            """);
    }

    private static void theEnd(Edges edges) {
        String sentence = "A RUN that ENDS: what WATER stands goes, the DOOR is open, the LAMP is 1 (4 if it broke), what was paid is used up.";
        edges.says("5", sentence, ready(0) + steps(0, 1) + """
            start(0, 0); told(0, 7) = 1; minute(1); told(0, 5) = 0; count(10) = 10; told(0, 3) = 1; told(0, 4) = 1; told(0, 7) = 0; told(0, 6) = 1
            start(0, 0) = -28; pay(0) = 0; start(0, 0) = 1
            """);
        edges.says("5", sentence, ready(0) + steps(0, 3) + """
            start(0, 0); minute(2); told(0, 5) = 20; stop(0) = 1; told(0, 5) = 0; count(10) = 20; told(0, 3) = 1; told(0, 4) = 1; told(0, 7) = 0
            told(0, 6) = 1; start(0, 0) = -28
            """);
        edges.says("5", sentence, ready(0) + steps(0, 3) + """
            start(0, 0); breaks(0, 3); minute(2); told(0, 5) = 20; minute(1); told(0, 5) = 0; count(10) = 20; told(0, 3) = 1; told(0, 4) = 4
            told(0, 7) = 0; told(0, 6) = 1; mend(0); start(0, 0) = -28
            """);
        edges.says("5", sentence, "bound(10, 9, 9);" + ready(0, 0) + steps(0, 3) + """
            start(0, 0); start(1, 0); minute(2); told(0, 4) = 3; told(0, 5) = 10; stop(0) = 2; told(0, 4) = 1; told(0, 5) = 0; count(10) = 10
            told(0, 3) = 1; told(1, 5) = 10; told(1, 4) = 2; told(1, 7) = 1
            """);
        edges.says("5", sentence, ready(0) + """
            program(0, 0); start(0, 0) = 1; told(0, 5) = 0; told(0, 3) = 1; told(0, 4) = 1; told(0, 7) = 0; count(10) = 0; start(0, 0) = -28
            """);
        edges.says("5", sentence, "tube(0, 1, 0);" + ready(0) + steps(0, 1) + """
            coin(0, 0, 3); start(0, 0); minute(1); told(0, 7) = 0; credit(0) = 3; pay(0) = 3
            """);
    }

    private static void boundsForGood(Edges edges) {
        String sentence = "BOUNDS are 100 each at first; they are for good as soon as a RUN was begun.";
        edges.says("5", sentence, """
            used(3) = 100; used(4) = 100; used(5) = 100; bound(1, 2, 3) = 1; used(3) = 1; used(4) = 2; used(5) = 3; minute(1); bound(4, 5, 6) = 1
            used(3) = 4; used(4) = 5; used(5) = 6
            """);
        edges.says("5", sentence, ready(0) + steps(0, 1) + """
            bound(10, 9, 9) = 1; start(0, 0) = 1; bound(10, 9, 9) = -3; stop(0); bound(10, 9, 9) = -3; minute(1); bound(20, 9, 9) = -3; used(3) = 10
            fetch(0); remove(0); bound(20, 9, 9) = -3
            """);
        // Five fills and ten of power are within the first bounds, ten fills at most.
        edges.says("5", sentence, ready(0, 0, 0, 0, 0, 0, 0, 0, 0, 0, 0) + steps(0, 2) + """
            start(0, 0); start(1, 0); start(2, 0); start(3, 0); start(4, 0); start(5, 0); start(6, 0); start(7, 0); start(8, 0); start(9, 0)
            start(10, 0); minute(1); used(0) = 100; told(9, 4) = 2; told(10, 4) = 3
            """);
    }

    private static void start(Edges edges) {
        edges.says("Promise 26", "A RUN of a PROGRAM begins: 1 (with no STEPS it ENDS at once, book 7 stays);", ready(0) + steps(0, 2, 1, 3) + """
            start(0, 0) = 1; left(0) = 5; count(5) = 1; book(0, 6) = 1; count(0) = 0; told(0, 7) = 1; told(0, 5) = 0; minute(1); left(0) = 4; stop(0)
            pay(0); start(0, 0) = 1; book(0, 6) = 2; left(0) = 5; told(0, 5) = 0
            """);
        edges.says("Promise 26", "A RUN of a PROGRAM begins: 1 (with no STEPS it ENDS at once, book 7 stays);", ready(0) + """
            program(0, 0); start(0, 0) = 1; left(0) = 0; count(5) = 0; book(0, 6) = 1; book(0, 7) = 0; told(0, 3) = 1; told(0, 4) = 1; told(0, 7) = 0
            told(0, 6) = 1; stop(0) = -3; fetch(0) = 0; trace(0) = -5; minute(1); book(0, 0) = 0; touches(0, 0) = 5
            """);
        edges.says("Promise 26", "the DOOR is shut, the LAMP 2.", ready(0, 0) + steps(0, 2) + """
            told(0, 3) = 1; told(0, 4) = 1; start(0, 0); told(0, 3) = 0; told(0, 4) = 2; told(1, 3) = 1; told(1, 4) = 1
            """);
        edges.says("Promise 26", "UNKNOWN: PLACE, PROGRAM", ready(0) + """
            program(0, 1); program(39, 1); start(-1, 0) = -1; start(60, 0) = -1; start(0, -1) = -1; start(0, 40) = -1; left(0) = 0; start(0, 39) = 1
            """);
        edges.says("Promise 26", "UNKNOWN: PLACE, PROGRAM", """
            program(0, 1); machine(59, 0, 9, 0); load(0, 1, 0); put(59, 0); pay(59); start(59, 0) = 1
            """);
    }

    private static void startFindings(Edges edges) {
        edges.says("Promise 26", "NO MACHINE", ready(0) + """
            program(0, 1); start(1, 0) = -21; status() = 1; start(1, 1) = -21; start(0, 0) = 1; touches(1, 0) = 0
            """);
        edges.says("Promise 26", "BUSY: a RUN, or BROKEN", ready(0) + steps(4, 2) + """
            start(0, 0) = 1; start(0, 0) = -27; status() = 7; minute(1); start(0, 0) = -27; left(0) = 1; book(0, 6) = 1; minute(1); pay(0)
            breaks(0, 1); minute(1); start(0, 0) = -27; told(0, 7) = 1; mend(0); start(0, 0) = 1
            """);
        edges.says("Promise 26", "NO PROGRAM", ready(0) + """
            start(0, 0) = -23; status() = 3; start(0, 39) = -23; program(0, 1); takeOut(0); start(0, 0) = -23; program(0, 0); start(0, 0) = 1
            """);
        edges.says("Promise 26", "NO LOAD: it has none", """
            machine(0, 0, 9, 0); pay(0); program(0, 1); start(0, 0) = -22; status() = 2; load(0, 1, 0); start(0, 0) = -22; put(0, 0); fetch(0)
            start(0, 0) = -22; load(0, 1, 0); put(0, 1); start(0, 0) = 1
            """);
        edges.says("Promise 26", "MONEY: it was not paid for", """
            machine(0, 0, 9, 0); load(0, 1, 0); put(0, 0); program(0, 1); start(0, 0) = -28; status() = 8; pay(0); start(0, 0) = 1; stop(0)
            start(0, 0) = -28; machine(1, 0, 9, 5); load(0, 1, 0); put(1, 1); tube(0, 5, 0); coin(1, 0, 1); start(1, 0) = -28; pay(1); start(1, 0) = 1
            """);
    }

    private static void startStepByStep(Edges edges) {
        String face = "then STEP by STEP: NOT THAT MACHINE: it has not the FACE that the STEP wants";
        edges.says("Promise 26", face, ready(0, 3) + steps(4, 1, 4, 1, 2, 1) + """
            start(0, 0) = -25; status() = 5; left(0) = 0; told(0, 3) = 1; told(0, 7) = 1; book(0, 6) = 0; trace(0) = 52; trace(6) = 52; trace(10) = 50
            trace(11) = 0; trace(12) = -5; start(1, 0) = 1
            """);
        edges.says("Promise 26", face, ready(0) + steps(2, 1, 0, 1) + "bound(9, 9, 9); start(0, 0) = -25; trace(0) = -5;" + steps(0, 1, 2, 1) + """
            start(0, 0) = -32; trace(5) = -5; trace(4) = 0
            """);
        String bound = "BOUND: a WISH (all three are asked) is above its BOUND.";
        edges.says("Promise 26", bound, ready(0) + steps(0, 1) + """
            bound(9, 100, 100); start(0, 0) = -32; status() = 12; trace(0) = 52; trace(1) = 2; trace(2) = 51; trace(3) = 1; trace(4) = 0
            trace(5) = -5; left(0) = 0; bound(10, 0, 1); start(0, 0) = 1
            """);
        edges.says("Promise 26", bound, ready(0) + steps(1, 1) + """
            bound(0, 3, 100); start(0, 0) = -32; trace(0) = 52; trace(5) = -5; bound(0, 4, 2); start(0, 0) = -32; bound(0, 4, 3); start(0, 0) = 1
            book(0, 6) = 1
            """);
        edges.says("Promise 26", bound, ready(0) + steps(4, 1) + """
            bound(100, 100, 0); start(0, 0) = -32; told(0, 7) = 1; told(0, 3) = 1; bound(0, 0, 1); start(0, 0) = 1
            """);
        edges.says("Promise 26", bound, ready(0) + steps(4, 200, 0, 1, 1, 1) + """
            bound(10, 3, 100); start(0, 0) = -32; bound(9, 4, 100); start(0, 0) = -32; bound(10, 4, 3); start(0, 0) = 1
            """);
        // What others take now does not count.
        edges.says("Promise 26", bound, "bound(10, 9, 9);" + ready(0, 0) + steps(0, 3) + "start(0, 0) = 1; minute(1); used(0) = 10; start(1, 0) = 1");
    }

    private static void minute(Edges edges) {
        edges.says("Promise 27", "n MINUTES (1 to 60): TIME.", """
            minute(0) = -2; minute(1) = 1; minute(60) = 61; minute(61) = -2; minute(59) = 120; count(0) = 120; count(11) = 120
            """);
        edges.says("Promise 27", "n MINUTES (1 to 60): TIME.", ready(0) + steps(4, 200) + """
            start(0, 0); breaks(0, 61); minute(60) = 60; left(0) = 140; book(0, 0) = 60; told(0, 4) = 2; minute(1) = 61; told(0, 4) = 4
            book(0, 0) = 60
            """);
        edges.says("Promise 27", "OUTSIDE.", """
            minute(0) = -2; minute(-1) = -2; minute(61) = -2; minute(-2147483648) = -2; minute(2147483647) = -2; count(0) = 0; count(11) = 0
            count(12) = 0
            """);
    }

    private static void left(Edges edges) {
        StringBuilder longest = new StringBuilder(ready(0) + "program(0, 30);");
        for (int i = 0; i < 30; i++) {
            longest.append("step(0, " + i + ", 4, 200);");
        }
        edges.says("Promise 28", "MINUTES that are left of the RUN at a PLACE (0: there is none).", longest + "left(0) = 0; start(0, 0); left(0) = 6000; minute(1); left(0) = 5999;" + "minute(60);".repeat(99) + """
            left(0) = 59; minute(58); left(0) = 1; minute(1); left(0) = 0
            """);
        edges.says("Promise 28", "MINUTES that are left of the RUN at a PLACE (0: there is none).", "bound(10, 9, 9);" + ready(0, 0) + steps(0, 2, 4, 1) + """
            left(0) = 0; start(0, 0); start(1, 0); minute(1); left(0) = 2; left(1) = 3; stop(0); left(0) = 0; breaks(1, 1); minute(1); left(1) = 0
            """);
        edges.says("Promise 28", "UNKNOWN", "machine(0, 0, 9, 0); machine(59, 0, 9, 0); left(-1) = -1; left(0) = 0; left(59) = 0; left(60) = -1");
        edges.says("Promise 28", "NO MACHINE.", """
            left(0) = -21; status() = 1; machine(0, 0, 9, 0); left(0) = 0; left(1) = -21; remove(0); left(0) = -21
            """);
    }

    private static void stop(Edges edges) {
        edges.says("Promise 29", "The RUN ENDS: what left() told.", ready(0) + steps(0, 2, 1, 3) + """
            start(0, 0); left(0) = 5; stop(0) = 5; left(0) = 0; count(5) = 0; told(0, 3) = 1; told(0, 4) = 1; told(0, 7) = 0; book(0, 7) = 1
            book(0, 6) = 1; pay(0); start(0, 0); minute(4); left(0) = 1; stop(0) = 1; book(0, 7) = 2; told(0, 5) = 0; count(10) = 20; minute(1)
            used(2) = 0; book(0, 0) = 4
            """);
        edges.says("Promise 29", "UNKNOWN", "machine(0, 0, 9, 0); machine(59, 0, 9, 0); stop(-1) = -1; stop(0) = -3; stop(59) = -3; stop(60) = -1");
        edges.says("Promise 29", "NO MACHINE", """
            stop(0) = -21; status() = 1; machine(0, 0, 9, 0); stop(1) = -21; remove(0); stop(0) = -21; count(12) = 3; touches(0, 0) = 0
            """);
        edges.says("Promise 29", "STATE (behind that): there is none.", ready(0) + steps(4, 1) + """
            stop(0) = -3; told(0, 7) = 1; book(0, 7) = 0; start(0, 0); minute(1); stop(0) = -3; book(0, 7) = 0; breaks(0, 1); minute(1); stop(0) = -3
            told(0, 4) = 4; count(12) = 0
            """);
    }

    private static void breaks(Edges edges) {
        String sentence = "The MACHINE will break in n minutes (1 to 1000; in place of what was told; 0: not any more; it is gone behind that, and with the MACHINE; mend() leaves it): 1.";
        edges.says("Promise 30", sentence, "machine(0, 0, 9, 0); breaks(0, -1) = -2; breaks(0, 1) = 1; told(0, 4) = 1; minute(1); told(0, 4) = 4");
        edges.says("Promise 30", sentence, "machine(0, 0, 9, 0); minute(7); breaks(0, 1001) = -2; breaks(0, 1000) = 1;" + "minute(60);".repeat(16) + """
            minute(39) = 1006; told(0, 4) = 1; minute(1) = 1007; told(0, 4) = 4
            """);
        edges.says("Promise 30", sentence, """
            machine(0, 0, 9, 0); breaks(0, 2); breaks(0, 4) = 1; minute(3); told(0, 4) = 1; minute(1); told(0, 4) = 4; mend(0); breaks(0, 4)
            breaks(0, 2) = 1; minute(2); told(0, 4) = 4; mend(0); minute(5); told(0, 4) = 1
            """);
        edges.says("Promise 30", sentence, """
            machine(0, 0, 9, 0); breaks(0, 0) = 1; breaks(0, 2); breaks(0, 0) = 1; minute(5); told(0, 4) = 1; touches(0, 0) = 0
            """);
        edges.says("Promise 30", sentence, """
            machine(0, 0, 9, 0); breaks(0, 2); minute(2); mend(0) = 1; minute(60); told(0, 4) = 1; touches(0, 0) = 2
            """);
        edges.says("Promise 30", sentence, """
            machine(0, 0, 9, 0); breaks(0, 2); remove(0); machine(0, 0, 9, 0); minute(3); told(0, 4) = 1; remove(0); breaks(0, 2) = -21
            """);
        edges.says("Promise 30", sentence, """
            machine(0, 0, 9, 0); breaks(0, 1); minute(1); breaks(0, 2) = 1; mend(0) = 1; minute(1); told(0, 4) = 1; minute(1); told(0, 4) = 4
            mend(0) = 1; breaks(0, 2); mend(0) = 0; minute(2); told(0, 4) = 4
            """);
        edges.says("Promise 30", sentence, """
            machine(0, 0, 9, 0); machine(1, 0, 9, 0); breaks(0, 2); breaks(1, 3); minute(2); told(0, 4) = 4; told(1, 4) = 1; minute(1); told(1, 4) = 4
            touches(0, 0) = 1; touches(1, 0) = 1
            """);
        edges.says("Promise 30", "UNKNOWN", """
            machine(0, 0, 9, 0); machine(59, 0, 9, 0); breaks(-1, 1) = -1; breaks(60, 1) = -1; breaks(0, 1) = 1; breaks(59, 1) = 1
            """);
        edges.says("Promise 30", "OUTSIDE", """
            machine(0, 0, 9, 0); breaks(0, 3); breaks(0, -1) = -2; breaks(0, 1001) = -2; breaks(1, 1001) = -2; minute(3); told(0, 4) = 4
            count(12) = 0
            """);
        edges.says("Promise 30", "NO MACHINE.", """
            breaks(0, 1) = -21; breaks(0, 0) = -21; status() = 1; machine(0, 0, 9, 0); minute(1); told(0, 4) = 1; breaks(1, 1000) = -21; count(12) = 3
            """);
    }

    private static void mend(Edges edges) {
        edges.says("Promise 31", "It is BROKEN no more, its LAMP 1: 1; 0: it was not.", ready(0) + steps(4, 2) + """
            mend(0) = 0; breaks(0, 1); minute(1); told(0, 4) = 4; mend(0) = 1; told(0, 4) = 1; mend(0) = 0; told(0, 7) = 1; told(0, 6) = 1
            start(0, 0) = 1; mend(0) = 0; told(0, 4) = 2; told(0, 3) = 0; left(0) = 2; count(12) = 0
            """);
        edges.says("Promise 31", "It is BROKEN no more, its LAMP 1: 1; 0: it was not.", "bound(10, 9, 9);" + ready(0, 0) + steps(0, 2) + """
            start(0, 0); start(1, 0); minute(1); told(1, 4) = 3; mend(1) = 0; told(1, 4) = 3
            """);
        edges.says("Promise 31", "UNKNOWN", "machine(0, 0, 9, 0); machine(59, 0, 9, 0); mend(-1) = -1; mend(0) = 0; mend(59) = 0; mend(60) = -1");
        edges.says("Promise 31", "NO MACHINE.", """
            mend(0) = -21; status() = 1; machine(0, 0, 9, 0); mend(1) = -21; mend(0) = 0; breaks(0, 1); minute(1); remove(0); mend(0) = -21
            count(12) = 3
            """);
    }

    private static void bound(Edges edges) {
        edges.says("Promise 32", "BOUNDS of WATER, HEAT, POWER for a minute (0 to 10000 each): 1.", """
            bound(0, 0, 0) = 1; used(3) = 0; used(4) = 0; used(5) = 0; bound(10000, 10000, 10000) = 1; used(3) = 10000; used(4) = 10000
            used(5) = 10000; bound(5, 6, 7) = 1; used(3) = 5; used(4) = 6; used(5) = 7; bound(-1, 1, 1) = -2; bound(1, -1, 1) = -2
            bound(1, 1, -1) = -2; bound(10001, 1, 1) = -2; bound(1, 10001, 1) = -2; bound(1, 1, 10001) = -2; used(3) = 5; used(4) = 6; used(5) = 7
            """);
        edges.says("Promise 32", "OUTSIDE", """
            bound(-1, -1, -1) = -2; bound(10001, 10001, 10001) = -2; used(3) = 100; used(4) = 100; used(5) = 100; count(12) = 0
            """);
        edges.says("Promise 32", "STATE: a RUN was begun.", ready(0) + """
            start(0, 0) = -23; bound(50, 50, 50) = 1; program(0, 1); step(0, 0, 2, 1); start(0, 0) = -25; bound(60, 60, 60) = 1; step(0, 0, 4, 1)
            start(0, 0) = 1; bound(70, 70, 70) = -3; used(3) = 60; minute(1); bound(70, 70, 70) = -3; used(5) = 60; count(12) = 2
            """);
        edges.says("Promise 32", "STATE: a RUN was begun.", ready(0) + """
            program(0, 0); bound(60, 60, 60) = 1; start(0, 0) = 1; bound(70, 70, 70) = -3; used(4) = 60
            """);
    }

    private static void used(Edges edges) {
        edges.says("Promise 33", "WATER, HEAT, POWER (0 to 2) that went in the latest MINUTE; 3 to 5: their BOUNDS.", "bound(30, 31, 32);" + ready(0, 2) + """
            program(0, 1); program(1, 1); step(0, 0, 0, 2); step(1, 0, 2, 2); start(0, 0); start(1, 1); used(0) = 0; used(1) = 0; used(2) = 0
            minute(1); used(0) = 10; used(1) = 9; used(2) = 2; used(3) = 30; used(4) = 31; used(5) = 32; stop(1); used(1) = 9; minute(1); used(0) = 10
            used(1) = 0; used(2) = 1; minute(1); used(0) = 0; used(1) = 0; used(2) = 0; back(1); used(0) = 10
            """);
        edges.says("Promise 33", "OUTSIDE.", "used(-1) = -2; used(0) = 0; used(5) = 100; used(6) = -2; count(12) = 0");
    }
}
