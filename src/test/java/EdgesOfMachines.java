/** Part 1 of the terms, and promises 1 to 8: a new object, and machines. */
final class EdgesOfMachines {
    static void hold(Edges edges) {
        newObject(edges);
        places(edges);
        firstState(edges);
        faces(edges);
        wishes(edges);
        trace(edges);
        touchesOfCalls(edges);
        touchesOfMinutes(edges);
        touchesOfDrums(edges);
        machine(edges);
        drum(edges);
        remove(edges);
        told(edges);
        wish(edges);
    }

    private static void newObject(Edges edges) {
        String sentence = "No MACHINES, PROGRAMS, coins, LOADS; TIME 0.";
        // An object that was used before must leave nothing to the new one.
        edges.check().run("an earlier object", """
            machine(0, 4, 9, 0); program(0, 1); tube(0, 1, 9); load(0, 1, 0); put(0, 0); mix(0, 1, false); bound(50, 50, 50); pay(0); start(0, 0)
            minute(1); told(1, 0) = -21; breaks(0, 1); coin(0, 0, 1)
            """);
        edges.says("Promise 1", sentence, Edges.each("told(#, 0) = -21;", 60) + Edges.each("credit(#) = 0;", 60) + Edges.each("touches(#, 0) = 0;", 60)
                + Edges.each("touches(#, 1) = 0;", 60) + "status() = 1; count(12) = 60; count(1) = 0");
        edges.says("Promise 1", sentence, Edges.each("minutes(#) = -23;", 40) + Edges.each("coins(#, 0) = 0;", 12) + Edges.each("coins(#, 1) = 0;", 12)
                + Edges.each("given(#) = 0;", 12) + "count(2) = 0; about(0, 0) = -1; fetch(0) = -1; count(3) = 0");
        edges.says("Promise 1", sentence, Edges.each("count(#) = 0;", 13) + """
            status() = 0; trace(0) = -5; used(0) = 0; used(1) = 0; used(2) = 0; used(3) = 100; used(4) = 100; used(5) = 100; back(1) = -3
            mix(0, 1, true) = 1; minute(1) = 1; load(0, 1, 0) = 0; about(0, 4) = 1
            """);
    }

    private static void places(Edges edges) {
        edges.says("1", "PLACES 0 .. 59, each without a MACHINE (at first) or with one.", Edges.each("told(#, 0) = -21;", 60) + """
            machine(-1, 0, 1, 0) = -1; machine(0, 0, 1, 0) = 1; machine(59, 1, 1, 0) = 1; machine(60, 0, 1, 0) = -1
            told(0, 0) = 0; told(1, 0) = -21; told(58, 0) = -21; told(59, 0) = 1; count(1) = 2
            """);
        edges.says("1", "PLACES 0 .. 59, each without a MACHINE (at first) or with one.", Edges.each("machine(#, 0, 1, 0) = 1;", 60) + "count(1) = 60;" + Edges.each("remove(#) = 0;", 60) + "count(1) = 0");
        edges.says("1", "KINDS: 0 WASHER, 1 SPINNER (a WASHER), 2 DRYER, 3 PRESS (a DRYER, but without TURNS), 4 BANK (a WASHER).", """
            machine(0, -1, 1, 0) = -2; machine(0, 0, 1, 0) = 1; machine(1, 1, 1, 0) = 1; machine(2, 2, 1, 0) = 1; machine(3, 3, 1, 0) = 1
            machine(4, 4, 1, 0) = 1; machine(5, 5, 1, 0) = -2; told(0, 0) = 0; told(1, 0) = 1; told(2, 0) = 2; told(3, 0) = 3; told(4, 0) = 4
            count(1) = 5
            """);
        edges.says("1", "A MACHINE has ROOM (grams; of a BANK that of its DRUMS together, 6 at most), a PRICE,", """
            machine(0, 0, 1, 0); told(0, 1) = 1; told(0, 2) = 0; machine(1, 2, 20000, 5000); told(1, 1) = 20000; told(1, 2) = 5000
            machine(2, 4, 0, 9); told(2, 1) = 0; drum(2, 1); told(2, 1) = 1; drum(2, 20); told(2, 1) = 21; drum(2, 300); drum(2, 4000); drum(2, 5)
            drum(2, 20000); told(2, 1) = 24326; told(2, 2) = 9; drum(2, 1) = -4; told(2, 1) = 24326; told(2, 8) = 6
            """);
    }

    private static void firstState(Edges edges) {
        edges.says("1", "a DOOR (open at first), a LAMP (1 free, so at first, 2 goes, 3 waits, 4 BROKEN),", """
            machine(0, 0, 5, 0); told(0, 3) = 1; told(0, 4) = 1; machine(1, 4, 0, 0); told(1, 3) = 1; told(1, 4) = 1; remove(1); machine(1, 0, 5, 0)
            bound(10, 100, 100); load(0, 1, 0); load(0, 1, 0); put(0, 0); put(1, 1); pay(0); pay(1); told(0, 3) = 1; told(0, 4) = 1; program(0, 1)
            step(0, 0, 0, 2); start(0, 0); start(1, 0); told(0, 3) = 0; told(0, 4) = 2; told(1, 4) = 2; minute(1); told(0, 4) = 2; told(1, 4) = 3
            told(1, 3) = 0; breaks(1, 1); minute(1); told(1, 4) = 4; told(1, 3) = 1; told(0, 4) = 1; told(0, 3) = 1
            """);
        edges.says("1", "8 LOADS at most", "machine(0, 0, 9, 0);" + "load(0, 1, 0);".repeat(9)
                + "put(0, 0); put(0, 1); put(0, 2); put(0, 3); put(0, 4); put(0, 5); put(0, 6) = 7; put(0, 7) = 8; put(0, 8) = -4; told(0, 6) = 8; about(8, 3) = -1");
        edges.says("1", "8 LOADS at most", "machine(0, 4, 9, 0); drum(0, 9);" + "load(0, 1, 0);".repeat(9)
                + "put(0, 0); put(0, 1); put(0, 2); put(0, 3); put(0, 4); put(0, 5); put(0, 6) = 7; put(0, 7) = 8; put(0, 8) = -4; fetch(0); put(0, 8) = 8");
        edges.says("1", "WATER that stands in it (0 at first), perhaps a RUN.", """
            machine(0, 0, 5, 0); told(0, 5) = 0; left(0) = 0; stop(0) = -3; count(5) = 0; load(0, 1, 0); put(0, 0); pay(0); program(0, 1)
            step(0, 0, 0, 1); start(0, 0); told(0, 5) = 0; left(0) = 1; count(5) = 1; stop(0) = 1; count(5) = 0
            """);
    }

    private static void faces(Edges edges) {
        edges.says("1", "FACES: FILLS: WASHERS; TURNS: WASHERS, and DRYERS that are no PRESS; WARMS: DRYERS."
                + " (SPINNERS and BANKS are WASHERS, a PRESS is a DRYER.)", """
            machine(0, 0, 1, 0); machine(1, 1, 1, 0); machine(2, 2, 1, 0); machine(3, 3, 1, 0); machine(4, 4, 0, 0); machine(5, 4, 1, 0)
            told(0, 10) = 1; told(1, 10) = 1; told(2, 10) = 0; told(3, 10) = 0; told(4, 10) = 1; told(5, 10) = 1
            told(0, 11) = 1; told(1, 11) = 1; told(2, 11) = 1; told(3, 11) = 0; told(4, 11) = 1; told(5, 11) = 1
            told(0, 12) = 0; told(1, 12) = 0; told(2, 12) = 1; told(3, 12) = 1; told(4, 12) = 0; told(5, 12) = 0
            """);
        // What start() answers, of each kind, to FILL, TURN, WARM, DRAIN, REST.
        String[] due = {"1 1 -25 1 1", "1 1 -25 1 1", "-25 1 1 -25 1", "-25 -25 1 -25 1", "1 1 -25 1 1"};
        for (int kind = 0; kind < 5; kind++) {
            String[] answers = due[kind].split(" ");
            for (int step = 0; step < 5; step++) {
                edges.says("1", "STEPS: 0 FILL, 3 DRAIN want FILLS; 1 TURN TURNS; 2 WARM WARMS; 4 REST none.",
                        "machine(0, " + kind + ", 1, 0); load(0, 1, 0); put(0, 0); pay(0); program(0, 1); step(0, 0, " + step + ", 1); start(0, 0) = " + answers[step]);
            }
        }
    }

    private static void wishes(Edges edges) {
        String up = "WISHES of a MACHINE for a minute of a STEP are told by BODIES, of each by the nearest KIND from its own one upward that has one"
                + " (all stand under MACHINE); \"up\" is what the next one upward tells.";
        String water = "0 WATER: MACHINE 0; WASHER 10 of FILL, else up; BANK up times how many DRUMS.";
        String heat = "1 HEAT: MACHINE 0; WASHER 4 of TURN, else up; SPINNER up / 2; DRYER 9 of WARM, 5 of TURN, else up;"
                + " PRESS 7 of WARM, else up; BANK up times how many DRUMS.";
        String power = "2 POWER: MACHINE 1; WASHER up and 2 of TURN and of DRAIN, else up; SPINNER 2 times up; DRYER up and 3 of TURN, else up;"
                + " BANK up and how many DRUMS.";
        String speed = "3 SPEED (of TURNS): WASHER 2; SPINNER 3 times up; DRYER 1.";
        String wear = "4 WEAR of n minutes: n times SPEED, as TURNS lends it.";
        edges.quote("1", up);
        // Kind, drums, wish; then of each step the wish and the bodies that began, the first one first.
        wishRow(edges, water, 0, 0, 0, "10: 0", "0: 0 50", "0: 0 50", "0: 0 50", "0: 0 50");
        wishRow(edges, water, 1, 0, 0, "10: 0", "0: 0 50", "0: 0 50", "0: 0 50", "0: 0 50");
        wishRow(edges, water, 2, 0, 0, "0: 50", "0: 50", "0: 50", "0: 50", "0: 50");
        wishRow(edges, water, 3, 0, 0, "0: 50", "0: 50", "0: 50", "0: 50", "0: 50");
        wishRow(edges, water, 4, 0, 0, "0: 40 0", "0: 40 0 50", "0: 40 0 50", "0: 40 0 50", "0: 40 0 50");
        wishRow(edges, water, 4, 1, 0, "10: 40 0", "0: 40 0 50", "0: 40 0 50", "0: 40 0 50", "0: 40 0 50");
        wishRow(edges, water, 4, 6, 0, "60: 40 0", "0: 40 0 50", "0: 40 0 50", "0: 40 0 50", "0: 40 0 50");
        wishRow(edges, heat, 0, 0, 1, "0: 1 51", "4: 1", "0: 1 51", "0: 1 51", "0: 1 51");
        wishRow(edges, heat, 1, 0, 1, "0: 11 1 51", "2: 11 1", "0: 11 1 51", "0: 11 1 51", "0: 11 1 51");
        wishRow(edges, heat, 2, 0, 1, "0: 21 51", "5: 21", "9: 21", "0: 21 51", "0: 21 51");
        wishRow(edges, heat, 3, 0, 1, "0: 31 21 51", "5: 31 21", "7: 31", "0: 31 21 51", "0: 31 21 51");
        wishRow(edges, heat, 4, 0, 1, "0: 41 1 51", "0: 41 1", "0: 41 1 51", "0: 41 1 51", "0: 41 1 51");
        wishRow(edges, heat, 4, 1, 1, "0: 41 1 51", "4: 41 1", "0: 41 1 51", "0: 41 1 51", "0: 41 1 51");
        wishRow(edges, heat, 4, 6, 1, "0: 41 1 51", "24: 41 1", "0: 41 1 51", "0: 41 1 51", "0: 41 1 51");
        wishRow(edges, power, 0, 0, 2, "1: 2 52", "3: 2 52", "1: 2 52", "3: 2 52", "1: 2 52");
        wishRow(edges, power, 1, 0, 2, "2: 12 2 52", "6: 12 2 52", "2: 12 2 52", "6: 12 2 52", "2: 12 2 52");
        wishRow(edges, power, 2, 0, 2, "1: 22 52", "4: 22 52", "1: 22 52", "1: 22 52", "1: 22 52");
        wishRow(edges, power, 3, 0, 2, "1: 22 52", "4: 22 52", "1: 22 52", "1: 22 52", "1: 22 52");
        wishRow(edges, power, 4, 0, 2, "1: 42 2 52", "3: 42 2 52", "1: 42 2 52", "3: 42 2 52", "1: 42 2 52");
        wishRow(edges, power, 4, 1, 2, "2: 42 2 52", "4: 42 2 52", "2: 42 2 52", "4: 42 2 52", "2: 42 2 52");
        wishRow(edges, power, 4, 6, 2, "7: 42 2 52", "9: 42 2 52", "7: 42 2 52", "9: 42 2 52", "7: 42 2 52");
        wishRow(edges, speed, 0, 0, 3, "2: 3");
        wishRow(edges, speed, 1, 0, 3, "6: 13 3");
        wishRow(edges, speed, 2, 0, 3, "1: 23");
        wishRow(edges, speed, 4, 0, 3, "2: 3");
        wishRow(edges, speed, 4, 6, 3, "2: 3");
        wishRow(edges, wear, 0, 0, 4, "0: 64 3", "2: 64 3", "4: 64 3");
        wishRow(edges, wear, 1, 0, 4, "0: 64 13 3", "6: 64 13 3", "12: 64 13 3");
        wishRow(edges, wear, 2, 0, 4, "0: 64 23", "1: 64 23", "2: 64 23");
        wishRow(edges, wear, 4, 6, 4, "0: 64 3", "2: 64 3", "4: 64 3");
    }

    private static void wishRow(Edges edges, String sentence, int kind, int drums, int wish, String... due) {
        for (int step = 0; step < due.length; step++) {
            String[] sides = due[step].split(": ");
            String[] bodies = sides[1].split(" ");
            StringBuilder calls = new StringBuilder("machine(0, " + kind + ", " + (kind == 4 ? 0 : 9) + ", 0);" + "drum(0, 9);".repeat(drums));
            calls.append("trace(0) = -5; wish(0, " + wish + ", " + step + ") = " + sides[0] + ";");
            for (int i = 0; i < bodies.length; i++) {
                calls.append("trace(" + (bodies.length - 1 - i) + ") = " + bodies[i] + ";");
            }
            edges.says("1", sentence, calls + "trace(" + bodies.length + ") = -5; told(0, 0) = " + kind + "; told(0, 8) = " + drums);
        }
    }

    private static void trace(Edges edges) {
        edges.says("1", "THE TRACE: whenever a BODY begins, 10 times its KIND (5 of MACHINE, 6 of what TURNS lends) and its number;", """
            machine(0, 1, 5, 0); wish(0, 0, 1); wish(0, 4, 2); trace(0) = 3; trace(1) = 13; trace(2) = 64; trace(3) = 50; trace(4) = 0; trace(5) = -5
            told(0, 11); book(0, 0); left(0); used(0); digest(); status(); trace(0) = 3; trace(4) = 0; trace(5) = -5
            """);
        String told = "the latest 30 are told.";
        edges.says("1", told, "machine(0, 0, 5, 0); machine(1, 2, 5, 0); wish(1, 3, 0);" + "wish(0, 3, 0);".repeat(28)
                + "trace(28) = 23; trace(29) = -5; wish(0, 3, 0); trace(28) = 3; trace(29) = 23; trace(30) = -5; wish(0, 3, 0); trace(29) = 3; trace(30) = -5");
        edges.says("1", told, "machine(0, 0, 5, 0); machine(1, 2, 5, 0);" + "wish(0, 3, 0);".repeat(100) + "wish(1, 3, 0);"
                + "trace(0) = 23; trace(1) = 3; trace(29) = 3; trace(30) = -5; trace(31) = -5; trace(100) = -5");
        edges.says("Promise 7", "Of THE TRACE, i from the latest one on", """
            machine(0, 0, 5, 0); machine(1, 2, 5, 0); wish(0, 3, 0); trace(0) = 3; wish(1, 3, 0); trace(0) = 23; trace(1) = 3; wish(0, 0, 0)
            trace(0) = 0; trace(2) = 3
            """);
        edges.says("Promise 7", "NONE", """
            trace(0) = -5; trace(-1) = -5; trace(1) = -5; machine(0, 0, 5, 0); trace(0) = -5; wish(0, 3, 0); trace(0) = 3; trace(1) = -5
            trace(-1) = -5; trace(2147483647) = -5; trace(-2147483648) = -5; trace(-30) = -5; trace(30) = -5
            """);
    }

    private static void touchesOfCalls(Edges edges) {
        String sentence = "A TOUCH: each put(), pay(), start(), stop(), mend() that finds its MACHINE (whatever it answers then)";
        edges.says("1", sentence, """
            load(0, 1, 0); put(0, 0) = -21; pay(0) = -21; start(0, 0) = -21; stop(0) = -21; mend(0) = -21; touches(0, 0) = 0; touches(0, 1) = 0
            machine(0, 0, 5, 3); put(0, 1) = -1; put(60, 0) = -1; start(0, 40) = -1; start(0, -1) = -1; touches(0, 0) = 0; touches(0, 1) = 0
            """);
        edges.says("1", sentence, """
            machine(0, 0, 2, 0); load(0, 1, 0); load(0, 2, 0); load(0, 1, 1); put(0, 0) = 1; touches(0, 0) = 1; put(0, 0) = -22; touches(0, 0) = 2
            put(0, 1) = -31; touches(0, 0) = 3; mix(0, 1, false); put(0, 2) = -30; touches(0, 0) = 4; pay(0); program(0, 1); start(0, 0)
            put(0, 2) = -27; touches(0, 0) = 7; touches(0, 1) = 7; touches(1, 0) = 0
            """);
        edges.says("1", sentence, "machine(0, 0, 9, 0);" + "load(0, 1, 0);".repeat(9) + """
            put(0, 0); put(0, 1); put(0, 2); put(0, 3); put(0, 4); put(0, 5); put(0, 6); put(0, 7); touches(0, 0) = 8; put(0, 8) = -4
            touches(0, 0) = 9; machine(1, 4, 0, 0); put(1, 8) = -26; touches(1, 0) = 1; touches(1, 1) = 1
            """);
        edges.says("1", sentence, """
            machine(0, 0, 9, 1); pay(0) = -28; touches(0, 0) = 1; tube(0, 2, 0); coin(0, 0, 1); pay(0) = -29; touches(0, 0) = 2; tube(0, 1, 0)
            coin(0, 0, 1); touches(0, 0) = 2; pay(0) = 0; touches(0, 0) = 3; pay(0) = -3; touches(0, 0) = 4; touches(0, 1) = 4
            """);
        edges.says("1", sentence, """
            machine(0, 0, 9, 1); start(0, 0) = -23; touches(0, 0) = 1; program(0, 1); start(0, 0) = -22; touches(0, 0) = 2; load(0, 1, 0); put(0, 0)
            start(0, 0) = -28; touches(0, 0) = 4; tube(0, 1, 0); coin(0, 0, 1); pay(0); step(0, 0, 2, 1); start(0, 0) = -25; touches(0, 0) = 6
            step(0, 0, 0, 1); bound(9, 9, 9); start(0, 0) = -32; touches(0, 0) = 7; bound(10, 9, 9); start(0, 0) = 1; touches(0, 0) = 8
            start(0, 0) = -27; touches(0, 0) = 9; stop(0) = 1; touches(0, 0) = 10; stop(0) = -3; touches(0, 0) = 11; mend(0) = 0; touches(0, 0) = 12
            breaks(0, 1); minute(1); touches(0, 0) = 13; mend(0) = 1; touches(0, 0) = 14; touches(0, 1) = 14
            """);
        edges.says("1", "each fetch() of a LOAD in one", """
            machine(0, 0, 9, 0); load(0, 1, 0); fetch(0) = -22; fetch(1) = -1; touches(0, 0) = 0; put(0, 0); pay(0); program(0, 1); start(0, 0)
            touches(0, 0) = 3; fetch(0) = -27; touches(0, 0) = 4; stop(0); fetch(0) = 0; touches(0, 0) = 6; fetch(0) = -22; touches(0, 0) = 6
            touches(0, 1) = 6
            """);
        edges.says("1", sentence, """
            machine(0, 0, 9, 0); drum(0, 1) = -25; told(0, 0); wish(0, 0, 0); coin(0, 0, 1) = -3; tube(0, 1, 0); coin(0, 0, 1); credit(0); refund(0)
            left(0); breaks(0, 5); book(0, 0); cost(0, 1) = -26; minute(1); back(1); touches(0, 0) = 0; remove(0); touches(0, 0) = 0
            touches(0, 1) = 0
            """);
    }

    private static void touchesOfMinutes(Edges edges) {
        edges.says("1", "each break-down", """
            machine(0, 0, 9, 0); breaks(0, 2); minute(1); touches(0, 0) = 0; minute(1); touches(0, 0) = 1; minute(5); touches(0, 0) = 1; breaks(0, 1)
            minute(1); touches(0, 0) = 2; touches(0, 1) = 2; load(0, 1, 0); mend(0); put(0, 0); pay(0); program(0, 1); start(0, 0); touches(0, 0) = 6
            breaks(0, 1); minute(1); touches(0, 0) = 7; touches(0, 1) = 7
            """);
        edges.says("1", "and each minute of a RUN (that goes or waits)", """
            bound(10, 9, 9); machine(0, 0, 9, 0); machine(1, 0, 9, 0); load(0, 1, 0); load(0, 1, 0); put(0, 0); put(1, 1); pay(0); pay(1)
            program(0, 1); step(0, 0, 0, 2); start(0, 0); start(1, 0); minute(1); told(0, 4) = 2; told(1, 4) = 3; touches(0, 0) = 4; touches(1, 0) = 4
            minute(3); left(0) = 0; left(1) = 0; touches(0, 0) = 6; touches(1, 0) = 7; minute(9); touches(0, 0) = 6; touches(1, 0) = 7
            touches(1, 1) = 7; touches(2, 0) = 0
            """);
        edges.says("1", "is an ENTRY and, as it ends however it does, a LEAVING of the PLACE (they go on there, whichever MACHINE it has, or none);", """
            machine(0, 0, 9, 0); mend(0); mend(0); touches(0, 0) = 2; touches(0, 1) = 2; remove(0); touches(0, 0) = 2; touches(0, 1) = 2
            mend(0) = -21; touches(0, 0) = 2; machine(0, 4, 9, 0); touches(0, 0) = 2; mend(0); touches(0, 0) = 4; touches(0, 1) = 4; minute(1)
            mend(0); back(1); touches(0, 0) = 6; touches(0, 1) = 6
            """);
    }

    private static void touchesOfDrums(Edges edges) {
        String sentence = "of a BANK each DRUM, one behind the other, is one of each more within.";
        edges.says("1", sentence, """
            machine(0, 4, 0, 0); mend(0); touches(0, 0) = 1; drum(0, 1); mend(0); touches(0, 0) = 3; drum(0, 1); mend(0); touches(0, 0) = 6
            touches(0, 1) = 6; drum(0, 1); drum(0, 1); drum(0, 1); drum(0, 1) = 6; touches(0, 0) = 6; stop(0) = -3; touches(0, 0) = 13
            touches(0, 1) = 13
            """);
        edges.says("1", sentence, """
            machine(0, 4, 5, 0); drum(0, 5); load(0, 1, 0); put(0, 0); touches(0, 0) = 3; pay(0); program(0, 1); step(0, 0, 4, 3); start(0, 0)
            touches(0, 0) = 9; minute(1); touches(0, 0) = 12; fetch(0) = -27; touches(0, 0) = 15; breaks(0, 1); minute(1); touches(0, 0) = 18
            fetch(0) = 0; touches(0, 0) = 21; touches(0, 1) = 21
            """);
        edges.says("Promise 8", "ENTRIES (what 0), LEAVINGS (1) of a PLACE.", """
            machine(0, 0, 9, 0); machine(59, 4, 9, 0); mend(0); mend(59); touches(0, 0) = 1; touches(0, 1) = 1; touches(59, 0) = 2; touches(59, 1) = 2
            touches(1, 0) = 0
            """);
        edges.says("Promise 8", "UNKNOWN", "touches(-1, 0) = -1; touches(0, 0) = 0; touches(59, 1) = 0; touches(60, 1) = -1");
        edges.says("Promise 8", "OUTSIDE", """
            touches(0, -1) = -2; touches(0, 0) = 0; touches(0, 1) = 0; touches(0, 2) = -2; machine(0, 0, 1, 0); touches(0, 2) = -2
            """);
    }

    private static void machine(Edges edges) {
        edges.says("Promise 2", "A PLACE gets a MACHINE: 1.", """
            machine(3, 0, 7, 8) = 1; told(3, 0) = 0; told(3, 1) = 7; told(3, 2) = 8; told(2, 0) = -21; told(4, 0) = -21; count(1) = 1
            """);
        for (int kind = 0; kind < 4; kind++) {
            edges.says("Promise 2", "ROOM 1 to 20000", ("machine(0, K, -1, 0) = -2; machine(0, K, 0, 0) = -2; machine(0, K, 1, 0) = 1; told(0, 1) = 1; told(0, 8) = 0;"
                    + "machine(1, K, 20001, 0) = -2; machine(1, K, 20000, 0) = 1; told(1, 1) = 20000; told(1, 8) = 0; count(1) = 2").replace("K", "" + kind));
        }
        edges.says("Promise 2", "of a BANK 0 to 20000: that of a first DRUM (0: it has none).", """
            machine(0, 4, -1, 0) = -2; machine(0, 4, 0, 0) = 1; told(0, 8) = 0; told(0, 1) = 0; drum(0, 3) = 1; machine(1, 4, 1, 0) = 1
            told(1, 8) = 1; told(1, 1) = 1; drum(1, 3) = 2; machine(2, 4, 20000, 0) = 1; told(2, 8) = 1; told(2, 1) = 20000
            machine(3, 4, 20001, 0) = -2; told(3, 0) = -21
            """);
        edges.says("Promise 2", "UNKNOWN", """
            machine(-1, 0, 1, 0) = -1; machine(0, 0, 1, 0) = 1; machine(59, 0, 1, 0) = 1; machine(60, 0, 1, 0) = -1; count(1) = 2
            """);
        edges.says("Promise 2", "OUTSIDE: also PRICE not 0 to 5000", """
            machine(0, 0, 1, -1) = -2; machine(0, 0, 1, 0) = 1; told(0, 2) = 0; machine(1, 0, 1, 5000) = 1; told(1, 2) = 5000
            machine(2, 0, 1, 5001) = -2; told(2, 0) = -21; machine(2, 4, 1, -1) = -2; machine(2, 4, 0, 5001) = -2; machine(2, -1, 1, 0) = -2
            machine(2, 5, 1, 0) = -2; machine(2, 5, 0, 0) = -2; count(1) = 2; count(12) = 1
            """);
        edges.says("Promise 2", "STATE: there is one.", """
            machine(0, 0, 7, 8) = 1; machine(0, 1, 9, 9) = -3; machine(0, 4, 0, 0) = -3; told(0, 0) = 0; told(0, 1) = 7; told(0, 2) = 8; remove(0) = 0
            machine(0, 1, 9, 9) = 1; machine(1, 4, 0, 0) = 1; machine(1, 4, 0, 0) = -3; breaks(0, 1); minute(1); machine(0, 1, 9, 9) = -3
            told(0, 4) = 4; count(12) = 0
            """);
    }

    private static void drum(Edges edges) {
        edges.says("Promise 3", "A BANK gets a DRUM more (ROOM 1 to 20000): how many it has.", """
            machine(0, 4, 0, 0); drum(0, 0) = -2; drum(0, -1) = -2; drum(0, 20001) = -2; told(0, 8) = 0; drum(0, 1) = 1; told(0, 8) = 1
            drum(0, 20000) = 2; told(0, 8) = 2; told(0, 1) = 20001
            """);
        edges.says("Promise 3", "UNKNOWN", """
            machine(0, 4, 0, 0); machine(59, 4, 0, 0); drum(-1, 1) = -1; drum(0, 1) = 1; drum(59, 1) = 1; drum(60, 1) = -1
            """);
        edges.says("Promise 3", "OUTSIDE", """
            machine(0, 4, 5, 0); drum(0, 0) = -2; drum(0, 20001) = -2; drum(1, 0) = -2; told(0, 8) = 1; told(0, 1) = 5; count(12) = 0
            """);
        edges.says("Promise 3", "NO MACHINE", """
            drum(0, 1) = -21; status() = 1; machine(0, 4, 5, 0); drum(1, 1) = -21; remove(0); drum(0, 1) = -21; count(12) = 3
            """);
        edges.says("Promise 3", "NOT THAT MACHINE", """
            machine(0, 0, 5, 0); machine(1, 1, 5, 0); machine(2, 2, 5, 0); machine(3, 3, 5, 0); machine(4, 4, 5, 0); drum(0, 1) = -25
            drum(1, 1) = -25; drum(2, 1) = -25; drum(3, 1) = -25; status() = 5; drum(4, 1) = 2; load(0, 1, 0); put(0, 0); drum(0, 1) = -25; pay(0)
            program(0, 1); start(0, 0); drum(0, 1) = -25; told(0, 1) = 5
            """);
        edges.says("Promise 3", "BUSY: it has LOADS, a RUN", """
            machine(0, 4, 5, 0); drum(0, 5) = 2; load(0, 1, 0); put(0, 0); drum(0, 5) = -27; status() = 7; pay(0); program(0, 1); start(0, 0)
            drum(0, 5) = -27; minute(1); drum(0, 5) = -27; told(0, 8) = 2; fetch(0); drum(0, 5) = 3; pay(0); drum(0, 5) = 4; breaks(0, 1); minute(1)
            drum(0, 5) = 5; told(0, 1) = 25
            """);
        edges.says("Promise 3", "FULL: 6 (behind FINDINGS).", """
            machine(0, 4, 5, 0); drum(0, 1); drum(0, 1); drum(0, 1); drum(0, 1) = 5; drum(0, 1) = 6; drum(0, 1) = -4; told(0, 8) = 6; told(0, 1) = 10
            count(12) = 0; load(0, 1, 0); put(0, 0); drum(0, 1) = -27; fetch(0); drum(0, 1) = -4; count(12) = 1; machine(1, 4, 0, 0); drum(1, 1) = 1
            """);
    }

    private static void remove(Edges edges) {
        edges.says("Promise 4", "Its MACHINE goes: its KIND.", """
            machine(0, 0, 1, 0); machine(1, 1, 1, 0); machine(2, 2, 1, 0); machine(3, 3, 1, 0); machine(4, 4, 1, 0); machine(5, 4, 0, 0)
            remove(0) = 0; remove(1) = 1; remove(2) = 2; count(1) = 3; told(3, 0) = 3; remove(3) = 3; remove(4) = 4; remove(5) = 4; count(1) = 0
            told(0, 0) = -21
            """);
        edges.says("Promise 4", "Its MACHINE goes: its KIND.", """
            machine(0, 4, 10, 0); drum(0, 10); load(0, 1, 0); put(0, 0); pay(0); program(0, 1); step(0, 0, 1, 9); start(0, 0); minute(2); stop(0)
            fetch(0); pay(0); breaks(0, 2); minute(1); remove(0) = 4; machine(0, 0, 7, 3); told(0, 1) = 7; told(0, 2) = 3; told(0, 3) = 1
            told(0, 4) = 1; told(0, 5) = 0; told(0, 6) = 0; told(0, 7) = 0; told(0, 8) = 0; told(0, 9) = 0; book(0, 0) = 0; book(0, 3) = 0
            book(0, 4) = 0; book(0, 5) = 0; book(0, 6) = 0; book(0, 7) = 0; left(0) = 0; minute(1); told(0, 4) = 1
            """);
        edges.says("Promise 4", "Its MACHINE goes: its KIND.", """
            machine(0, 0, 1, 0); breaks(0, 1); minute(1); remove(0) = 0; machine(0, 1, 1, 0); told(0, 4) = 1; mend(0) = 0
            """);
        edges.says("Promise 4", "UNKNOWN", """
            machine(0, 0, 1, 0); machine(59, 2, 1, 0); remove(-1) = -1; remove(60) = -1; remove(0) = 0; remove(59) = 2
            """);
        edges.says("Promise 4", "NO MACHINE", """
            remove(0) = -21; status() = 1; machine(0, 0, 1, 0); remove(1) = -21; remove(0) = 0; remove(0) = -21; count(12) = 3
            """);
        edges.says("Promise 4", "BUSY: it has LOADS, a RUN, CREDIT.", """
            machine(0, 0, 1, 5); load(0, 1, 0); put(0, 0); remove(0) = -27; status() = 7; fetch(0); remove(0) = 0; machine(0, 0, 1, 5); tube(0, 1, 0)
            coin(0, 0, 1); remove(0) = -27; refund(0); remove(0) = 0; machine(0, 0, 1, 1); coin(0, 0, 1); remove(0) = -27; pay(0) = 0; remove(0) = 0
            machine(0, 0, 1, 0); load(0, 1, 0); put(0, 1); pay(0); program(0, 1); start(0, 0); remove(0) = -27; minute(1); remove(0) = -27; fetch(1)
            remove(0) = 0
            """);
    }

    private static void told(Edges edges) {
        edges.says("Promise 5", "Of a MACHINE: 0 KIND, 1 ROOM, 2 PRICE, 3 whether the DOOR is open, 4 LAMP, 5 WATER that stands, 6 LOADS,", """
            machine(0, 1, 12, 34); told(0, 0) = 1; told(0, 1) = 12; told(0, 2) = 34; told(0, 3) = 1; told(0, 4) = 1; told(0, 5) = 0; told(0, 6) = 0
            remove(0); machine(0, 0, 5, 0); load(0, 1, 0); load(0, 1, 0); put(0, 0); told(0, 6) = 1; put(0, 1); told(0, 6) = 2; pay(0); program(0, 2)
            step(0, 0, 0, 2); start(0, 0); told(0, 3) = 0; told(0, 4) = 2; told(0, 5) = 0; minute(1); told(0, 5) = 10; told(0, 6) = 2; minute(1)
            told(0, 5) = 20; told(0, 3) = 0; minute(1); told(0, 5) = 0; told(0, 3) = 1
            """);
        edges.says("Promise 5", "7 whether it was paid for", """
            machine(0, 0, 5, 2); told(0, 7) = 0; tube(0, 1, 0); coin(0, 0, 1); pay(0) = -28; told(0, 7) = 0; coin(0, 0, 1); told(0, 7) = 0; pay(0)
            told(0, 7) = 1; machine(1, 0, 5, 0); told(1, 7) = 0; pay(1); told(1, 7) = 1; load(0, 1, 0); put(1, 0); program(0, 1); start(1, 0)
            told(1, 7) = 1; minute(1); told(1, 7) = 0; told(0, 7) = 1
            """);
        edges.says("Promise 5", "8 DRUMS (0 but of a BANK)", """
            machine(0, 0, 5, 0); machine(1, 1, 5, 0); machine(2, 2, 5, 0); machine(3, 3, 5, 0); machine(4, 4, 0, 0); machine(5, 4, 5, 0)
            told(0, 8) = 0; told(1, 8) = 0; told(2, 8) = 0; told(3, 8) = 0; told(4, 8) = 0; told(5, 8) = 1; drum(5, 5); told(5, 8) = 2
            """);
        edges.says("Promise 5", "9 minutes that it waited since it last went (0 without a RUN)", """
            bound(10, 9, 9); machine(0, 0, 5, 0); machine(1, 0, 5, 0); machine(2, 0, 5, 0); load(0, 1, 0); load(0, 1, 0); load(0, 1, 0); put(0, 0)
            put(1, 1); put(2, 2); pay(0); pay(1); pay(2); program(0, 1); step(0, 0, 0, 9); told(0, 9) = 0; start(0, 0); start(1, 0); start(2, 0)
            told(2, 9) = 0; minute(1); told(0, 9) = 0; told(1, 9) = 1; told(2, 9) = 1; minute(1); told(0, 9) = 1; told(1, 9) = 0; told(2, 9) = 2
            minute(1); told(0, 9) = 2; told(1, 9) = 1; told(2, 9) = 0; stop(0); told(0, 9) = 0; minute(1); told(0, 9) = 0; breaks(2, 1)
            told(2, 9) = 1; minute(1); told(2, 9) = 0; pay(0); start(0, 0); told(0, 9) = 0
            """);
        edges.says("Promise 5", "10 whether it has FILLS, 11 TURNS, 12 WARMS.", """
            machine(0, 0, 5, 0); machine(2, 2, 5, 0); machine(3, 3, 5, 0); told(0, 10) = 1; told(0, 11) = 1; told(0, 12) = 0; told(2, 10) = 0
            told(2, 11) = 1; told(2, 12) = 1; told(3, 11) = 0
            """);
        edges.says("Promise 5", "UNKNOWN", """
            machine(0, 1, 5, 0); machine(59, 2, 5, 0); told(-1, 0) = -1; told(0, 0) = 1; told(59, 0) = 2; told(60, 0) = -1
            """);
        edges.says("Promise 5", "OUTSIDE", """
            machine(0, 2, 5, 0); told(0, -1) = -2; told(0, 0) = 2; told(0, 12) = 1; told(0, 13) = -2; told(1, 13) = -2; count(12) = 0
            """);
        edges.says("Promise 5", "NO MACHINE", """
            told(0, 0) = -21; told(0, 12) = -21; machine(0, 2, 5, 0); told(1, 3) = -21; told(0, 3) = 1; count(12) = 3; status() = 1
            """);
    }

    private static void wish(Edges edges) {
        for (int kind = 0; kind < 5; kind++) {
            // A press asks for a TURN, and a washer for a WARM, that it never does.
            int turn = new int[] {4, 2, 5, 5, 4}[kind];
            int warm = new int[] {0, 0, 9, 7, 0}[kind];
            edges.says("Promise 6", "The WISH (0 WATER, 1 HEAT, 2 POWER) of any MACHINE for any STEP's kind;", "machine(0, " + kind + ", 5, 0); wish(0, 1, 1) = " + turn
                    + "; wish(0, 1, 2) = " + warm + "; breaks(0, 1); minute(1); told(0, 4) = 4; wish(0, 1, 1) = " + turn + "; wish(0, 1, 2) = " + warm + "; told(0, 0) = " + kind);
        }
        edges.says("Promise 6", "3: SPEED (step is not looked at)", """
            machine(0, 0, 5, 0); wish(0, 3, 0) = 2; wish(0, 3, -1) = 2; wish(0, 3, 5) = 2; wish(0, 3, 1001) = 2; wish(0, 3, 2147483647) = 2
            wish(0, 3, -2147483648) = 2
            """);
        edges.says("Promise 6", "4: WEAR of as many minutes as step tells (0 to 1000).", """
            machine(0, 0, 5, 0); machine(1, 1, 5, 0); machine(2, 2, 5, 0); wish(0, 4, -1) = -2; wish(0, 4, 0) = 0; wish(0, 4, 1) = 2
            wish(0, 4, 5) = 10; wish(0, 4, 999) = 1998; wish(0, 4, 1000) = 2000; wish(0, 4, 1001) = -2; wish(1, 4, 1000) = 6000
            wish(2, 4, 1000) = 1000; wish(2, 4, 1001) = -2
            """);
        edges.says("Promise 6", "UNKNOWN", """
            machine(0, 0, 5, 0); machine(59, 0, 5, 0); wish(-1, 0, 0) = -1; wish(0, 0, 0) = 10; wish(59, 0, 0) = 10; wish(60, 0, 0) = -1
            """);
        edges.says("Promise 6", "OUTSIDE", """
            machine(0, 0, 5, 0); wish(0, -1, 0) = -2; wish(0, 0, 0) = 10; wish(0, 4, 0) = 0; wish(0, 5, 0) = -2; wish(0, 0, -1) = -2
            wish(0, 0, 4) = 0; wish(0, 0, 5) = -2; wish(0, 1, -1) = -2; wish(0, 1, 4) = 0; wish(0, 1, 5) = -2; wish(0, 2, -1) = -2; wish(0, 2, 0) = 1
            wish(0, 2, 4) = 1; wish(0, 2, 5) = -2; count(12) = 0
            """);
        edges.says("Promise 6", "NO MACHINE", """
            wish(0, 0, 0) = -21; wish(0, 2, 4) = -21; wish(0, 3, 0) = -21; wish(0, 4, 1000) = -21; trace(0) = -5; status() = 1
            """);
        edges.says("Promise 6", "NOT THAT MACHINE: 3, 4 without TURNS.", """
            machine(3, 3, 5, 0); wish(3, 3, 0) = -25; wish(3, 4, 0) = -25; wish(3, 4, 1000) = -25; trace(0) = -5; status() = 5; count(12) = 3
            wish(3, 2, 1) = 4; machine(2, 2, 5, 0); wish(2, 3, 0) = 1; machine(4, 4, 0, 0); wish(4, 3, 0) = 2; wish(4, 4, 3) = 6
            """);
    }
}
