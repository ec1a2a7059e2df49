/** The terms for all calls: which refusal is answered, and how an amount is shared. */
final class EdgesOfTerms {
    private static final int[] BELOW_AND_FAR = {-1, Integer.MIN_VALUE, Integer.MAX_VALUE};

    /** Calls that name a place, and what they answer where there is no machine. */
    private static final String[] PLACE_CALLS = {"drum(#, 1) = -21", "remove(#) = -21", "told(#, 0) = -21",
        "wish(#, 0, 0) = -21", "touches(#, 0) = 0", "touches(#, 1) = 0", "coin(#, 0, 1) = -21", "pay(#) = -21",
        "refund(#) = -21", "credit(#) = 0", "put(#, 0) = -21", "start(#, 0) = -21", "left(#) = -21", "stop(#) = -21",
        "breaks(#, 1) = -21", "mend(#) = -21", "book(#, 0) = -21", "cost(#, 0) = -26", "machine(#, 0, 1, 0) = 1"};

    /** Calls that name a program, and what they answer where there is none (place 7 has a machine). */
    private static final String[] PROGRAM_CALLS = {"takeOut(#) = 0", "step(#, 0, 0, 1) = -23", "minutes(#) = -23",
        "start(7, #) = -23", "program(#, 1) = 1"};

    private static final String[] TUBE_CALLS = {"given(#) = 0", "coins(#, 0) = 0", "coins(#, 1) = 0",
        "coin(7, #, 1) = -3", "tube(#, 1, 0) = 1"};

    /** Calls that name a load, and what they answer of one that waits. */
    private static final String[] LOAD_CALLS = {"fetch(#) = -22", "share(#, 0) = -22", "about(#, 1) = 1", "put(7, #) = 1"};

    /** Every other number of a call, far below and far above what is told. */
    private static final String[] NUMBERS = {"machine(0, #, 1, 0)", "machine(0, 0, #, 0)", "machine(0, 4, #, 0)",
        "machine(0, 0, 1, #)", "drum(8, #)", "told(7, #)", "wish(7, #, 0)", "wish(7, 0, #)", "wish(7, 1, #)", "wish(7, 2, #)",
        "wish(7, 4, #)", "touches(7, #)", "step(0, 0, #, 1)", "step(0, 0, 0, #)", "tube(0, #, 1)", "tube(0, 1, #)",
        "coin(7, 0, #)", "coins(0, #)", "load(#, 1, 0)", "load(0, #, 0)", "load(0, 1, #)", "mix(#, 0, true)", "mix(0, #, true)",
        "mix(#, #, false)", "about(0, #)", "minute(#)", "breaks(7, #)", "bound(#, 1, 1)", "bound(1, #, 1)", "bound(1, 1, #)",
        "used(#)", "book(7, #)", "cost(7, #)", "count(#)", "back(#)"};

    static void hold(Edges edges) {
        manyCalls(edges);
        greatNumbers(edges);
        everythingAtOnce(edges);
        moneyBesideAllLoads(edges);
        unknown(edges);
        outside(edges);
        orderOfMachines(edges);
        orderOfMoney(edges);
        orderOfLoads(edges);
        orderOfRuns(edges);
        findings(edges);
        toShare(edges);
        EdgesOfRefusals.hold(edges);
    }

    private static void manyCalls(Edges edges) {
        String sentence = "An object is used for at most 512 calls after it has been made";
        edges.says("What it is", sentence, "machine(0, 0, 5, 0);" + "minute(60);".repeat(508)
                + "count(0) = 30480; back(300) = 30180; told(0, 0) = 0");
        edges.says("What it is", sentence, "program(39, 7); minute(1);" + "program(0, 30); takeOut(0); program(1, 30);".repeat(169)
                + "minutes(1) = 30; back(1) = 0; minutes(39) = 7");
        edges.says("What it is", sentence, "load(0, 1, 0); minute(1);" + "load(0, 1, 0);".repeat(499)
                + "load(0, 1, 0) = -4; back(1) = 0; count(3) = 1; count(4) = 500; load(0, 1, 0) = 1; about(1, 4) = 501");
    }

    private static void greatNumbers(Edges edges) {
        String sentence = "Numbers are ints that stay far below their bounds";
        StringBuilder tubes = new StringBuilder("machine(0, 0, 5, 5000);");
        for (int k = 0; k < 12; k++) {
            tubes.append("tube(" + k + ", " + (5000 - k) + ", 950);");
        }
        // 5000 + 4999 + .. + 4989 is 59934.
        tubes.append("count(6) = 56937300;");
        for (int k = 0; k < 12; k++) {
            tubes.append("coin(0, " + k + ", 50);");
        }
        edges.says("Terms", sentence, tubes + "credit(0) = 2996700; count(7) = 2996700; count(6) = 59934000; pay(0) = -29; count(8) = 2996700");
        edges.says("Terms", sentence, "machine(0, 4, 20000, 0);" + "drum(0, 20000);".repeat(5) + "told(0, 1) = 120000;"
                + "load(0, 20000, 0);".repeat(7) + "put(0, 0); put(0, 1); put(0, 2); put(0, 3); put(0, 4); put(0, 5) = 6; put(0, 6) = -31; share(5, 5) = 3333");
        edges.says("Terms", "quotients are cut", """
            machine(0, 4, 1, 0); drum(0, 1); drum(0, 1); load(0, 2, 0); put(0, 0) = 1; share(0, 0) = 1; share(0, 1) = 1; share(0, 2) = 0
            """);
    }

    /** A full house: whatever stands beside another thing leaves it as it is. */
    private static void everythingAtOnce(Edges edges) {
        StringBuilder made = new StringBuilder();
        StringBuilder seen = new StringBuilder();
        for (int p = 0; p < 40; p++) {
            made.append("program(P, 30); step(P, 29, 0, M);".replace("P", "" + p).replace("M", "" + (p + 1)));
            seen.append("minutes(" + p + ") = " + (p + 30) + ";");
        }
        for (int place = 0; place < 60; place++) {
            made.append("machine(" + place + ", " + place % 4 + ", " + (place + 1) + ", 7);");
            seen.append("told(" + place + ", 1) = " + (place + 1) + ";");
        }
        for (int k = 0; k < 12; k++) {
            made.append("tube(" + k + ", " + (k + 1) + ", " + (k + 100) + ");");
            seen.append("coins(K, 0) = V; coins(K, 1) = N;".replace("K", "" + k).replace("V", "" + (k + 1)).replace("N", "" + (k + 100)));
        }
        for (int load = 0; load < 80; load++) {
            made.append("load(" + (load + 3) % 10 + ", " + (load + 1) + ", " + load % 7 + ");");
            seen.append("about(" + load + ", 1) = " + (load + 1) + ";");
        }
        for (int a = 0; a < 10; a++) {
            made.append("mix(" + a + ", " + (a + 1) % 10 + ", false) = 1;");
        }
        seen.append("coin(59, 11, 1) = 12; coin(0, 0, 1) = 1; refund(59) = 12; refund(0) = 1; coin(59, 11, 2) = 24; coin(0, 11, 1) = 12;"
                + "minute(9); pay(59) = 17; given(11) = 1; given(4) = 1; credit(59) = 0; credit(0) = 12; minutes(0) = 30; minutes(39) = 69;");
        edges.says("4", "LOADS 0 .. 499, as they come,", made + seen.toString() + """
            count(1) = 60; count(2) = 40; count(3) = 80; used(3) = 100; mix(0, 1, false) = 0; mix(0, 2, false) = 1; count(6) = 8391
            """);
        StringBuilder loads = new StringBuilder();
        for (int load = 0; load < 420; load++) {
            loads.append("load(0, " + (load + 1) + ", 9);");
        }
        edges.says("4", "LOADS 0 .. 499, as they come,", "machine(59, 4, 5, 6); machine(0, 0, 7, 8); program(39, 30); program(0, 30); tube(0, 4, 5); mix(0, 9, false); mix(8, 9, false); bound(1, 2, 3);" + loads + """
            told(59, 0) = 4; told(59, 1) = 5; told(59, 2) = 6; told(0, 1) = 7; minutes(39) = 30; minutes(0) = 30; minutes(38) = -23; coins(0, 0) = 4
            coins(0, 1) = 5; used(3) = 1; used(5) = 3; about(0, 1) = 1; about(419, 1) = 420; about(210, 1) = 211; about(419, 4) = 420
            mix(9, 0, true) = 0; mix(9, 8, true) = 0; mix(8, 7, true) = 1; credit(0) = 0; credit(59) = 0; book(59, 8) = 0; left(0) = 0; count(7) = 0
            """);
    }

    private static void moneyBesideAllLoads(Edges edges) {
        edges.says("4", "LOADS 0 .. 499, as they come,", "tube(0, 5, 0); machine(0, 0, 1, 5); coin(0, 0, 1); pay(0);" + "load(9, 20000, 9);".repeat(500) + """
            credit(0) = 0; tube(11, 500, 1) = 1; count(6) = 505; coin(0, 0, 1) = 5; refund(0) = 5; coins(0, 1) = 1; about(499, 4) = 500
            about(0, 0) = 9
            """);
    }

    private static void unknown(Edges edges) {
        String sentence = "UNKNOWN (there is no such PLACE, PROGRAM, TUBE, LOAD)";
        edges.says("Terms", sentence, "load(0, 1, 0); program(0, 1); tube(0, 1, 0);" + refusedAt(PLACE_CALLS, 60) + "count(1) = 0; count(12) = 0");
        edges.says("Terms", sentence, "load(0, 1, 0); program(0, 1); tube(0, 1, 0);" + at(PLACE_CALLS, 0) + at(PLACE_CALLS, 59) + "count(1) = 2");
        edges.says("Terms", sentence, "machine(7, 0, 9, 0);" + refusedAt(PROGRAM_CALLS, 40) + "count(2) = 0; count(12) = 0; touches(7, 0) = 0");
        edges.says("Terms", sentence, "machine(7, 0, 9, 0);" + at(PROGRAM_CALLS, 0) + at(PROGRAM_CALLS, 39) + "count(2) = 2");
        edges.says("Terms", sentence, "machine(7, 0, 9, 0);" + refusedAt(TUBE_CALLS, 12) + "credit(7) = 0");
        edges.says("Terms", sentence, "machine(7, 0, 9, 0);" + at(TUBE_CALLS, 0) + "coin(7, 0, 1) = 1");
        edges.says("Terms", sentence, "machine(7, 0, 9, 0);" + at(TUBE_CALLS, 11) + "coin(7, 11, 1) = 1");
        edges.says("Terms", sentence, "machine(7, 0, 9, 0);" + refusedAt(LOAD_CALLS, 0) + refusedAt(LOAD_CALLS, 500)
                + "load(0, 1, 0);" + refusedAt(LOAD_CALLS, 1) + at(LOAD_CALLS, 0) + "told(7, 6) = 1; touches(7, 0) = 1");
        edges.says("Terms", sentence, "machine(7, 0, 9, 0);" + "load(0, 1, 0);".repeat(499) + "about(499, 1) = -1; load(0, 1, 0) = 499;"
                + at(LOAD_CALLS, 499) + "about(500, 1) = -1; fetch(500) = -1; put(7, 500) = -1");
        edges.says("Terms", sentence, "minute(1); machine(7, 0, 9, 0); load(0, 1, 0); put(7, 0); back(1) = 0; machine(7, 0, 9, 0);" + refusedAt(LOAD_CALLS, 0));
    }

    private static void outside(Edges edges) {
        String sentence = "OUTSIDE (a number is not as told)";
        StringBuilder calls = new StringBuilder("machine(7, 0, 9, 0); machine(8, 4, 9, 0); load(0, 1, 0); program(0, 1); minute(2);");
        for (String call : NUMBERS) {
            for (int number : BELOW_AND_FAR) {
                calls.append(call.replace("#", String.valueOf(number))).append(" = -2;");
            }
        }
        edges.says("Terms", sentence, calls + "count(12) = 0; status() = 0; count(0) = 2");
    }

    private static void orderOfMachines(Edges edges) {
        String sentence = "Of several refusals the first one here";
        edges.says("Terms", sentence, """
            machine(60, 5, 0, -1) = -1; machine(0, 0, 1, 0) = 1; machine(60, 0, 1, 0) = -1
            machine(0, 5, 1, 0) = -2; machine(0, 0, 0, 0) = -2; machine(0, 0, 1, 5001) = -2; machine(0, 0, 1, 0) = -3
            told(60, 13) = -1; told(1, 13) = -2; touches(60, 2) = -1; book(60, 9) = -1; book(1, 9) = -2; count(12) = 0
            """);
        edges.says("Terms", sentence, """
            machine(0, 0, 1, 0); machine(1, 4, 1, 0); machine(2, 4, 1, 0); drum(2, 1); drum(2, 1); drum(2, 1); drum(2, 1); drum(2, 1) = 6
            load(0, 1, 0); put(1, 0); drum(60, 0) = -1; drum(5, 0) = -2; drum(0, 0) = -2; drum(1, 0) = -2; drum(2, 0) = -2
            count(12) = 0; load(0, 1, 0); put(2, 1); drum(2, 1) = -27; fetch(1); drum(2, 1) = -4
            """);
        edges.says("Terms", sentence, """
            machine(3, 3, 1, 0); wish(60, 5, 0) = -1; wish(60, 0, 5) = -1; wish(0, 5, 0) = -2; wish(0, 0, 5) = -2; wish(0, 4, 1001) = -2
            wish(3, 4, 1001) = -2; wish(3, 4, -1) = -2; count(12) = 0; wish(3, 4, 1000) = -25; wish(0, 4, 1000) = -21; wish(0, 3, 0) = -21
            """);
        edges.says("Terms", sentence, """
            program(40, 31) = -1; program(40, -1) = -1; step(40, 0, 5, 1) = -1; step(40, 0, 0, 1) = -1; step(0, 0, 5, 1) = -2
            step(0, 0, 0, 201) = -2; program(0, 1); step(0, 1, 5, 1) = -2; step(0, 1, 0, 0) = -2; step(0, -1, 0, 201) = -2; count(12) = 0
            takeOut(0); step(0, -1, 0, 1) = -23; step(0, 1, 0, 1) = -23
            """);
    }

    private static void orderOfMoney(Edges edges) {
        String sentence = "Of several refusals the first one here";
        edges.says("Terms", sentence, """
            tube(0, 1, 0); machine(0, 0, 1, 0); coin(0, 0, 1); tube(12, 0, 0) = -1; tube(12, 1, 0) = -1; tube(12, 2, 0) = -1; tube(1, 0, 0) = -2
            tube(1, 1, 1001) = -2; tube(1, 2, -1) = -2; tube(1, 1, 1000) = -3; coins(12, 2) = -1
            """);
        edges.says("Terms", sentence, """
            tube(0, 1, 1000); coin(60, 0, 0) = -1; coin(60, 1, 1) = -1; coin(60, 0, 1) = -1; coin(0, 12, 0) = -1; coin(0, 12, 1) = -1
            coin(0, 1, 0) = -2; coin(0, 1, 51) = -2; coin(0, 0, 51) = -2; coin(0, 1, 1) = -3; count(12) = 0; coin(0, 0, 1) = -21
            machine(0, 0, 1, 0); coin(0, 0, 51) = -2; coin(0, 1, 1) = -3; coin(0, 0, 1) = -4; count(12) = 1
            """);
        edges.says("Terms", sentence, """
            tube(0, 3, 0); machine(0, 0, 1, 1); machine(1, 0, 1, 3); pay(0) = -28; coin(1, 0, 1); pay(1) = 0; pay(1) = -3
            coin(1, 0, 2) = 6; pay(1) = -3; credit(1) = 6; count(12) = 1; status() = 8
            """);
    }

    private static void orderOfLoads(Edges edges) {
        String sentence = "Of several refusals the first one here";
        edges.says("Terms", sentence, "load(0, 1, 0);".repeat(500) + """
            load(10, 1, 0) = -2; load(0, 20001, 0) = -2; load(0, 1, 10) = -2; load(0, 1, 0) = -4; about(500, 5) = -1
            """);
        edges.says("Terms", "then FINDINGS, of several the first as told", """
            load(0, 2, 0); put(60, 1) = -1; put(60, 0) = -1; put(0, 1) = -1; put(0, 0) = -21; machine(0, 0, 5, 0); put(0, 0) = 1; put(1, 0) = -21
            machine(1, 4, 0, 0); put(1, 0) = -22; breaks(0, 1); breaks(1, 1); minute(1); put(0, 0) = -22; put(1, 0) = -22; fetch(0); put(1, 0) = -22
            load(0, 20000, 0); put(1, 1) = -27; put(0, 1) = -27; mend(1); mend(0); put(1, 1) = -26; put(0, 1) = -31
            """);
        edges.says("Terms", "then FINDINGS, of several the first as told", """
            machine(0, 0, 10, 0); load(0, 3, 0); put(0, 0); mix(0, 1, false); load(0, 8, 1); load(0, 7, 1); put(0, 1) = -31; put(0, 2) = -30
            pay(0); program(0, 1); start(0, 0) = 1; put(0, 1) = -27; put(0, 2) = -27; minute(1); breaks(0, 1); minute(1); put(0, 1) = -27
            """);
        edges.says("Terms", "then FINDINGS, of several the first as told", """
            share(0, 9) = -1; load(0, 3, 0); share(0, -1) = -22; share(0, 9) = -22; machine(0, 0, 10, 0); put(0, 0); share(0, 9) = -25
            share(0, -1) = -25
            """);
    }

    private static void orderOfRuns(Edges edges) {
        String sentence = "then FINDINGS, of several the first as told";
        edges.says("Terms", sentence, """
            start(60, 40) = -1; start(0, 40) = -1; start(60, 0) = -1; start(0, 0) = -21; machine(0, 0, 5, 1); start(0, 40) = -1; start(0, 0) = -23
            bound(0, 0, 0); program(0, 2); step(0, 0, 2, 1); step(0, 1, 2, 1); program(1, 1); start(0, 0) = -22; start(0, 1) = -22
            load(0, 1, 0); put(0, 0); start(0, 0) = -28; start(0, 1) = -28; start(0, 2) = -23; tube(0, 1, 0); coin(0, 0, 1); pay(0) = 0
            start(0, 2) = -23; start(0, 0) = -25; start(0, 1) = -32; breaks(0, 1); minute(1); start(0, 2) = -27; start(0, 0) = -27; start(0, 40) = -1
            """);
        edges.says("Terms", sentence, """
            machine(0, 0, 5, 1); breaks(0, 1); minute(1); program(0, 1); start(0, 0) = -27; start(0, 1) = -27; mend(0); start(0, 1) = -23
            start(0, 0) = -22
            """);
        edges.says("Terms", "STATE, FULL (as told)", """
            stop(0) = -21; pay(0) = -21; machine(0, 0, 1, 0); stop(0) = -3; stop(60) = -1; bound(10001, 0, 0) = -2; program(0, 1); load(0, 1, 0)
            put(0, 0); pay(0); start(0, 0) = 1; bound(10001, 0, 0) = -2; bound(0, -1, 0) = -2; bound(0, 0, 0) = -3; back(301) = -2; back(0) = -2
            back(300) = -3; breaks(60, 1001) = -1; breaks(1, 1001) = -2; breaks(1, 1) = -21; cost(60, -1) = -1; cost(0, 1000001) = -2
            cost(0, 1) = -26
            """);
    }

    private static void findings(Edges edges) {
        String sentence = "answered as -20 less them: 1 NO MACHINE, 2 NO LOAD, 3 NO PROGRAM, 4 BEHIND THE END, 5 NOT THAT MACHINE, 6 NOUGHT,"
                + " 7 BUSY, 8 MONEY, 9 CHANGE, 10 MIX, 11 ROOM, 12 BOUND, 13 SIZE.";
        edges.says("Terms", sentence, """
            left(0) = -21; load(0, 9, 0); fetch(0) = -22; minutes(0) = -23; program(0, 1); step(0, 1, 0, 1) = -24; machine(0, 3, 9, 1)
            drum(0, 1) = -25; cost(0, 1) = -26; put(0, 0); remove(0) = -27; pay(0) = -28; tube(0, 2, 0); coin(0, 0, 1); pay(0) = -29; load(0, 1, 1)
            fetch(0); put(0, 1); mix(0, 1, false); load(0, 1, 0); put(0, 2) = -30; load(0, 9, 1); put(0, 3) = -31; tube(0, 1, 0); coin(0, 0, 1)
            pay(0) = 0; bound(100, 100, 0); start(0, 0) = -32; program(0, -1) = -33; count(12) = 13
            """);
    }

    private static void toShare(Edges edges) {
        edges.says("Terms", "TO SHARE an amount by weights: each has amount times its weight by their sum, cut", """
            machine(0, 4, 1, 0); drum(0, 2); drum(0, 3); load(0, 6, 0); put(0, 0); share(0, 0) = 1; share(0, 1) = 2; share(0, 2) = 3
            machine(1, 4, 20000, 0); drum(1, 20000); load(0, 20000, 0); put(1, 1); share(1, 0) = 10000; share(1, 1) = 10000
            """);
        edges.says("Terms", "what is left goes, one each, to those with the greatest remainders", """
            machine(0, 4, 10, 0); drum(0, 17); drum(0, 13); load(0, 3, 0); put(0, 0); share(0, 0) = 1; share(0, 1) = 1; share(0, 2) = 1; load(0, 1, 0)
            put(0, 1); share(1, 0) = 0; share(1, 1) = 1; share(1, 2) = 0; load(0, 2, 0); put(0, 2); share(2, 0) = 0; share(2, 1) = 1; share(2, 2) = 1
            load(0, 5, 0); put(0, 3); share(3, 0) = 1; share(3, 1) = 2; share(3, 2) = 2
            """);
        edges.says("Terms", "of like ones to the lesser numbers first.", """
            machine(0, 4, 7, 0); drum(0, 7); drum(0, 7); drum(0, 7); drum(0, 7); drum(0, 7); load(0, 1, 0); put(0, 0); share(0, 0) = 1
            share(0, 1) = 0; share(0, 5) = 0; load(0, 5, 0); put(0, 1); share(1, 0) = 1; share(1, 4) = 1; share(1, 5) = 0; load(0, 6, 0); put(0, 2)
            share(2, 0) = 1; share(2, 5) = 1; load(0, 9, 0); put(0, 3); share(3, 0) = 2; share(3, 1) = 2; share(3, 2) = 2; share(3, 3) = 1
            share(3, 4) = 1; share(3, 5) = 1
            """);
    }

    private static String refusedAt(String[] calls, int firstAbove) {
        StringBuilder script = new StringBuilder();
        for (String call : calls) {
            String plain = call.replaceAll(" =.*", "");
            for (int number : BELOW_AND_FAR) {
                script.append(plain.replace("#", String.valueOf(number))).append(" = -1;");
            }
            script.append(plain.replace("#", String.valueOf(firstAbove))).append(" = -1;");
        }
        return script.toString();
    }

    private static String at(String[] calls, int number) {
        return String.join(";", calls).replace("#", String.valueOf(number)) + ";";
    }
}
