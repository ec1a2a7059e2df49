/** Part 6 of the terms, and promises 34 to 39: books, and the state of earlier minutes. */
final class EdgesOfBooks {
    /** A washer at 0 and a spinner at 1, with loads 0 and 1, paid for. */
    private static final String TWO = """
        machine(0, 0, 9, 0); machine(1, 1, 9, 0); load(0, 1, 0); load(0, 1, 0); put(0, 0); put(1, 1); pay(0); pay(1)
        """;

    static void hold(Edges edges) {
        keptTimes(edges);
        timeNought(edges);
        stateOfMachines(edges);
        stateOfTheHouse(edges);
        whatIsNotKept(edges);
        book(edges);
        cost(edges);
        count(edges);
        countOfMoney(edges);
        back(edges);
        digest(edges);
        status(edges);
    }

    private static void keptTimes(Edges edges) {
        String sentence = "is kept, of the latest 301 TIMES:";
        edges.says("6", sentence, "machine(0, 0, 1, 0);" + "minute(60);".repeat(5) + "count(11) = 300; back(300) = 0; told(0, 0) = 0; count(0) = 0");
        edges.says("6", sentence, "minute(60);".repeat(5) + "minute(1) = 301; count(11) = 300; back(300) = 1; count(11) = 0; back(1) = -3");
        edges.says("6", sentence, "minute(60);".repeat(4) + "minute(59) = 299; count(11) = 299; back(300) = -3; back(299) = 0");
        // Machines come at time 1 and at time 2: at 301 the state of 1 is kept, at 302 it is gone.
        edges.says("6", sentence, "minute(1); machine(0, 0, 1, 0); minute(1); machine(1, 0, 1, 0);" + "minute(60);".repeat(4) + """
            minute(59) = 301; back(300) = 1; count(1) = 0
            """);
        edges.says("6", sentence, "minute(1); machine(0, 0, 1, 0); minute(1); machine(1, 0, 1, 0);" + "minute(60);".repeat(5) + """
            count(11) = 300; back(300) = 2; count(1) = 1; back(1) = -3
            """);
        // Many times over: what was kept goes round, and comes back as it was.
        edges.says("6", sentence, "minute(60);".repeat(100) + "machine(7, 0, 1, 0);" + "minute(60);".repeat(4) + """
            minute(59); back(299) = 6000; count(1) = 0; count(11) = 1; back(1) = 5999; back(1) = -3
            """);
        edges.says("6", sentence, "minute(60);".repeat(10) + """
            back(300) = 300; minute(60) = 360; count(11) = 60; back(61) = -3; back(60) = 300; back(1) = -3; minute(60) = 360; minute(60); minute(60)
            minute(60); minute(60) = 600; minute(1); count(11) = 300; back(300) = 301
            """);
    }

    private static void timeNought(Edges edges) {
        String behind = "THE STATE right behind each MINUTE";
        edges.says("6", behind, """
            minute(1); machine(0, 0, 1, 0); minute(1); machine(1, 0, 1, 0); count(1) = 2; back(1) = 1; count(1) = 0; machine(2, 0, 1, 0); minute(1)
            count(1) = 1; back(1) = 1; count(1) = 0
            """);
        edges.says("6", behind, TWO + """
            program(0, 1); step(0, 0, 0, 9); start(0, 0); minute(4); told(0, 5) = 40; back(1) = 3; told(0, 5) = 30; left(0) = 6; back(2) = 1
            told(0, 5) = 10; minute(1); told(0, 5) = 20
            """);
        String nought = "(of TIME 0: right ahead of the latest one that began at it)";
        edges.says("6", nought, """
            machine(0, 0, 1, 0); minute(1); machine(1, 0, 1, 0); back(1) = 0; told(0, 0) = 0; told(1, 0) = -21; machine(2, 0, 1, 0); minute(1)
            back(1) = 0; told(2, 0) = 0; told(0, 0) = 0; count(1) = 2
            """);
        edges.says("6", nought, """
            machine(0, 0, 1, 0); minute(5); back(5) = 0; remove(0); minute(5); back(5) = 0; count(1) = 0; minute(1); minute(1); machine(3, 0, 1, 0)
            back(2) = 0; count(1) = 0
            """);
        edges.says("6", nought, """
            load(0, 1, 0); minute(2); back(1) = 1; load(0, 1, 0); minute(1); back(1) = 1; count(3) = 1; back(1) = 0; count(3) = 1; load(0, 1, 0)
            minute(3); back(3) = 0; count(3) = 2
            """);
    }

    private static void stateOfMachines(Edges edges) {
        String all = "all but";
        edges.says("6", all, """
            machine(0, 1, 12, 34); machine(1, 4, 5, 6); minute(1); remove(0); machine(0, 2, 1, 1); drum(1, 7); machine(2, 3, 1, 0); back(1)
            told(0, 0) = 1; told(0, 1) = 12; told(0, 2) = 34; told(1, 8) = 1; told(1, 1) = 5; told(2, 0) = -21
            """);
        edges.says("6", all, """
            machine(0, 4, 5, 6); drum(0, 7); drum(0, 8); minute(1); remove(0); minute(1); told(0, 0) = -21; back(1); told(0, 0) = 4; minute(1)
            back(2) = 0; told(0, 0) = 4; told(0, 8) = 3; told(0, 1) = 20; load(0, 20, 0); put(0, 0); share(0, 0) = 5; share(0, 1) = 7; share(0, 2) = 8
            """);
        edges.says("6", all, TWO + """
            program(0, 2); step(0, 0, 0, 3); bound(10, 99, 99); start(0, 0); start(1, 0); minute(2); told(0, 4) = 3; told(1, 4) = 2; told(0, 5) = 10
            told(1, 5) = 10; stop(0); stop(1); minute(1); back(1) = 2; told(0, 3) = 0; told(0, 4) = 3; told(0, 5) = 10; told(0, 7) = 1; told(0, 9) = 1
            left(0) = 3; told(1, 4) = 2; told(1, 9) = 0; told(1, 5) = 10; left(1) = 3; count(5) = 2; count(10) = 0; minute(1); told(0, 4) = 2
            told(1, 4) = 3; minute(5); left(0) = 0; told(0, 3) = 1
            """);
        edges.says("6", all, TWO + """
            told(0, 6) = 1; told(0, 7) = 1; minute(1); fetch(0); load(0, 1, 0); put(0, 2); load(0, 1, 0); put(0, 3) = 2; remove(1) = -27; back(1)
            told(0, 6) = 1; about(0, 3) = 0; about(2, 0) = -1; fetch(0) = 0; told(0, 6) = 0; fetch(1) = 1
            """);
        edges.says("6", all, """
            machine(0, 0, 9, 0); minute(1); pay(0); back(1); told(0, 7) = 0; pay(0); minute(1); remove(0); back(1) = 0; told(0, 7) = 1
            """);
        edges.says("6", all, """
            machine(0, 0, 9, 0); breaks(0, 5); minute(1); breaks(0, 1); minute(1); told(0, 4) = 4; back(1); told(0, 4) = 1; minute(3); told(0, 4) = 1
            minute(1) = 5; told(0, 4) = 4; minute(1); mend(0); back(1); told(0, 4) = 4; back(1); told(0, 4) = 1; breaks(0, 0); minute(2)
            told(0, 4) = 1
            """);
        edges.says("6", all, TWO + """
            program(0, 2); step(0, 0, 0, 1); step(0, 1, 1, 2); start(0, 0); minute(2); book(0, 0) = 2; book(0, 2) = 10; book(0, 3) = 4; book(0, 4) = 4
            book(0, 5) = 2; minute(1); pay(0); start(0, 0); stop(0); breaks(0, 1); minute(1); book(0, 6) = 2; book(0, 7) = 1; back(2) = 2
            book(0, 0) = 2; book(0, 2) = 10; book(0, 3) = 4; book(0, 4) = 4; book(0, 5) = 2; book(0, 6) = 1; book(0, 7) = 0; back(1) = 1
            book(0, 0) = 1; book(0, 5) = 0
            """);
        edges.says("6", all, "bound(10, 9, 9);" + TWO + """
            program(0, 1); step(0, 0, 0, 5); start(0, 0); start(1, 0); minute(3); book(1, 1) = 2; book(0, 1) = 1; back(1) = 2; book(1, 1) = 1
            book(0, 1) = 1; back(1) = 1; book(0, 1) = 0; book(1, 1) = 1
            """);
    }

    private static void stateOfTheHouse(Edges edges) {
        String all = "all but";
        edges.says("6", all, """
            program(0, 2); step(0, 1, 0, 9); program(1, 0); minute(1); step(0, 0, 0, 50); takeOut(1); program(2, 3); minute(1); program(0, 30)
            takeOut(0); back(2); minutes(0) = 10; minutes(1) = 0; minutes(2) = -23; count(2) = 2
            """);
        edges.says("6", all, ready() + """
            program(0, 3); step(0, 0, 0, 1); step(0, 1, 1, 1); minute(1); program(0, 3); back(1); start(0, 0); minute(1); used(0) = 10; minute(1)
            used(1) = 4; minute(1); used(2) = 1
            """);
        edges.says("6", all, """
            tube(0, 5, 3); tube(1, 1, 9); machine(0, 0, 9, 4); coin(0, 0, 1); minute(1); pay(0) = 1; coins(1, 1) = 8; book(0, 8) = 4; count(9) = 4
            count(8) = 1; back(1); credit(0) = 5; coins(0, 1) = 4; coins(1, 1) = 9; book(0, 8) = 0; count(9) = 0; count(8) = 0; count(7) = 5
            told(0, 7) = 0; refund(0); tube(0, 7, 1); tube(2, 5, 5); minute(1); coins(2, 0) = 5; back(1); coins(0, 0) = 7; back(1) = -3
            """);
        edges.says("6", all, """
            tube(0, 5, 3); machine(0, 0, 9, 4); minute(1); tube(0, 6, 1); tube(1, 5, 2); back(1); coins(0, 0) = 5; coins(0, 1) = 3; coins(1, 0) = 0
            coins(1, 1) = 0; coin(0, 0, 2); back(1) = -3; minute(1); coin(0, 0, 1); count(7) = 15; refund(0) = 15; back(1); credit(0) = 10
            count(7) = 10; count(8) = 0
            """);
        edges.says("6", all, """
            load(1, 2, 3); minute(1); load(4, 5, 6); machine(0, 0, 9, 0); put(0, 0); back(1); count(3) = 1; about(0, 3) = -1; about(1, 0) = -1
            load(7, 8, 9) = 1; about(1, 0) = 7; about(1, 1) = 8; about(1, 2) = 9; about(1, 3) = -1
            """);
        edges.says("6", all, """
            mix(0, 1, false); minute(1); mix(0, 1, true) = 0; mix(2, 3, false); back(1); mix(0, 1, false) = 0; mix(1, 0, false) = 0
            mix(2, 3, false) = 1; mix(3, 2, true) = 0
            """);
        edges.says("6", all, "bound(1, 2, 3); minute(1); bound(4, 5, 6); back(1); used(3) = 1; used(4) = 2; used(5) = 3");
        edges.says("6", all, ready() + """
            program(0, 1); step(0, 0, 1, 3); minute(1); start(0, 0); bound(1, 1, 1) = -3; minute(2); used(1) = 4; back(1) = 2; used(1) = 4
            used(2) = 3; bound(1, 1, 1) = -3; back(1) = 1; used(1) = 0; used(2) = 0; bound(1, 1, 1) = 1
            """);
        edges.says("6", all, ready() + """
            program(0, 1); step(0, 0, 0, 2); start(0, 0); minute(2); count(10) = 20; back(1); count(10) = 0; told(0, 5) = 10; minute(1)
            count(10) = 20
            """);
    }

    private static String ready() {
        return "machine(0, 0, 9, 0); load(0, 1, 0); put(0, 0); pay(0);";
    }

    private static void whatIsNotKept(Edges edges) {
        edges.says("6", "TICKETS (those given, not who has which),", """
            load(0, 1, 0); minute(1); load(0, 1, 0); load(0, 1, 0); count(4) = 3; back(1); count(4) = 3; about(0, 4) = 1; load(0, 1, 0) = 1
            about(1, 4) = 4; minute(1); back(1); about(1, 4) = 4; about(0, 4) = 1; count(4) = 4
            """);
        edges.says("6", "THE TRACE,", """
            machine(0, 0, 9, 0); wish(0, 3, 0); minute(1); wish(0, 0, 0); wish(0, 4, 1); back(1); trace(0) = 3; trace(1) = 64; trace(2) = 0
            trace(3) = 3; trace(4) = -5
            """);
        edges.says("6", "TOUCHES,", """
            machine(0, 4, 9, 0); mend(0); minute(1); mend(0); machine(1, 0, 9, 0); mend(1); back(1); touches(0, 0) = 4; touches(0, 1) = 4
            touches(1, 0) = 1; touches(1, 1) = 1
            """);
        edges.says("6", "status(),", "told(0, 0) = -21; minute(1); fetch(0) = -1; minutes(0) = -23; status() = 3; back(1); status() = 3");
        edges.says("6", "count(12),", "told(0, 0) = -21; minute(1); told(0, 0) = -21; told(0, 0) = -21; count(12) = 3; back(1); count(12) = 3");
        edges.says("6", "CHANGE that was given last (given()).", """
            tube(0, 1, 5); tube(1, 9, 0); machine(0, 0, 9, 7); minute(1); coin(0, 1, 1); pay(0) = 2; back(1); given(0) = 2; given(1) = 0
            coins(0, 1) = 5; minute(1); machine(1, 0, 9, 0); pay(1) = 0; given(0) = 0; back(1); given(0) = 0
            """);
    }

    private static void book(Edges edges) {
        String part = "Promise 34";
        edges.says(part, "Of the MACHINE at a PLACE: 0 minutes that it went, 1 that it waited,", "bound(10, 99, 99);" + TWO + """
            program(0, 1); step(0, 0, 0, 3); book(0, 0) = 0; book(0, 1) = 0; start(0, 0); start(1, 0); minute(1); book(0, 0) = 1; book(0, 1) = 0
            book(1, 0) = 0; book(1, 1) = 1; minute(5); book(0, 0) = 3; book(1, 0) = 3; book(0, 1) = 2; book(1, 1) = 3; minute(9); book(0, 0) = 3
            book(0, 1) = 2
            """);
        edges.says(part, "2 WATER, 3 HEAT, 4 POWER that it took, 5 WEAR,", TWO + """
            program(0, 5); step(0, 0, 0, 1); step(0, 1, 1, 1); step(0, 2, 3, 1); step(0, 3, 4, 1); step(0, 4, 0, 1); start(0, 0); start(1, 0)
            minute(1); book(0, 2) = 10; book(0, 3) = 0; book(0, 4) = 1; book(0, 5) = 0; book(1, 4) = 2; minute(1); book(0, 2) = 10; book(0, 3) = 4
            book(0, 4) = 4; book(0, 5) = 2; book(1, 3) = 2; book(1, 4) = 8; book(1, 5) = 6; minute(1); book(0, 4) = 7; book(1, 4) = 14; minute(1)
            book(0, 4) = 8; book(1, 4) = 16; minute(1); book(0, 2) = 20; book(1, 2) = 20; book(0, 4) = 9; book(1, 4) = 18; book(0, 3) = 4
            book(0, 5) = 2; book(1, 5) = 6
            """);
        edges.says(part, "6 RUNS begun, 7 RUNS that did not end by their STEPS,", TWO + """
            program(0, 1); book(0, 6) = 0; book(0, 7) = 0; start(0, 0); book(0, 6) = 1; start(0, 0) = -27; book(0, 6) = 1; minute(1); book(0, 6) = 1
            book(0, 7) = 0; pay(0); start(0, 0); stop(0); book(0, 6) = 2; book(0, 7) = 1; pay(0); start(0, 0); breaks(0, 1); minute(1); book(0, 6) = 3
            book(0, 7) = 2; breaks(0, 1); minute(1); book(0, 7) = 2; mend(0); pay(0); program(1, 0); start(0, 1) = 1; book(0, 6) = 4; book(0, 7) = 2
            book(1, 6) = 0
            """);
        edges.says(part, "8 money paid.", """
            tube(0, 5, 9); machine(0, 0, 9, 5); machine(1, 0, 9, 0); book(0, 8) = 0; coin(0, 0, 2); book(0, 8) = 0; pay(0) = 5; book(0, 8) = 5
            pay(1) = 0; book(1, 8) = 0; load(0, 1, 0); put(0, 0); program(0, 0); start(0, 0); coin(0, 0, 1); pay(0); book(0, 8) = 10; coin(0, 0, 1)
            refund(0); book(0, 8) = 10
            """);
        edges.says(part, "Of the MACHINE at a PLACE:", ready() + """
            program(0, 2); start(0, 0); minute(1); stop(0); fetch(0); book(0, 0) = 1; book(0, 7) = 1; remove(0); book(0, 0) = -21; machine(0, 0, 9, 0)
            """ + Edges.each("book(0, #) = 0;", 9));
        edges.says(part, "UNKNOWN", "machine(0, 0, 9, 0); machine(59, 0, 9, 0); book(-1, 0) = -1; book(0, 0) = 0; book(59, 0) = 0; book(60, 0) = -1");
        edges.says(part, "OUTSIDE", """
            machine(0, 0, 9, 0); book(0, -1) = -2; book(0, 0) = 0; book(0, 8) = 0; book(0, 9) = -2; book(1, 9) = -2; count(12) = 0
            """);
        edges.says(part, "NO MACHINE.", """
            book(0, 0) = -21; book(0, 8) = -21; status() = 1; machine(0, 0, 9, 0); book(0, 0) = 0; book(1, 0) = -21; count(12) = 3
            """);
    }

    /** Machines at 3, 7 and 59 with loads 0, 1 and 2; program 0 rests for a minute. */
    private static final String THREE_THAT_REST = """
        program(0, 1); load(0, 1, 0); load(0, 1, 0); load(0, 1, 0); machine(3, 0, 9, 0); machine(7, 2, 9, 0); machine(59, 3, 9, 0)
        put(3, 0); put(7, 1); put(59, 2); pay(3); pay(7); pay(59); start(3, 0); start(7, 0); start(59, 0)
        """;

    private static void cost(Edges edges) {
        String part = "Promise 35";
        String sentence = "THE COST (0 to 1000000) of the house, SHARED by minutes that went (book 0) among MACHINES, by numbers of PLACES:";
        edges.says(part, sentence, THREE_THAT_REST + """
            minute(1); cost(3, -1) = -2; cost(3, 0) = 0; cost(59, 0) = 0; cost(3, 1) = 1; cost(7, 1) = 0; cost(59, 1) = 0; cost(3, 2) = 1
            cost(7, 2) = 1; cost(59, 2) = 0; cost(59, 3) = 1; cost(3, 1000000) = 333334; cost(7, 1000000) = 333333; cost(59, 1000000) = 333333
            cost(3, 1000001) = -2
            """);
        edges.says(part, sentence, THREE_THAT_REST + """
            minute(1); pay(59); start(59, 0); minute(1); cost(3, 3) = 1; cost(7, 3) = 1; cost(59, 3) = 1; cost(3, 2) = 1; cost(7, 2) = 0
            cost(59, 2) = 1; cost(3, 1) = 0; cost(7, 1) = 0; cost(59, 1) = 1; machine(0, 0, 9, 0); cost(0, 3) = 0; cost(59, 1000000) = 500000
            fetch(2); remove(59); cost(3, 3) = 2; cost(7, 3) = 1; machine(59, 0, 9, 0); cost(59, 3) = 0; cost(3, 3) = 2
            """);
        // Minutes that waited do not count.
        edges.says(part, sentence, "bound(10, 99, 99);" + TWO + """
            program(0, 1); step(0, 0, 0, 3); start(0, 0); start(1, 0); minute(3); book(0, 0) = 2; book(1, 0) = 1; cost(0, 9) = 6; cost(1, 9) = 3
            cost(0, 10) = 7; cost(1, 10) = 3
            """);
        edges.says(part, sentence, ready() + "program(0, 30); minute(1);" + Edges.each("step(0, #, 4, 200);", 30) + "start(0, 0);" + "minute(60);".repeat(100) + """
            book(0, 0) = 6000; machine(1, 0, 9, 0); load(0, 1, 0); put(1, 1); pay(1); program(1, 1); start(1, 1); minute(1); cost(0, 1000000) = 999833
            cost(1, 1000000) = 167; cost(0, 6001) = 6000; cost(1, 6001) = 1
            """);
        StringBuilder sixty = new StringBuilder("program(0, 1);");
        for (int place = 0; place < 60; place++) {
            sixty.append("machine(#, 0, 9, 0); load(0, 1, 0); put(#, #); pay(#); start(#, 0);".replace("#", "" + place));
        }
        sixty.append("minute(1); used(2) = 60; cost(0, 61) = 2; cost(1, 61) = 1; cost(0, 60) = 1; cost(59, 60) = 1; cost(59, 119) = 1; cost(58, 119) = 2;");
        for (int place = 0; place < 60; place++) {
            sixty.append("cost(" + place + ", 59) = " + (place < 59 ? 1 : 0) + ";");
        }
        edges.says(part, sentence, sixty.toString());
        edges.says(part, "what falls to a PLACE (0 without a MACHINE).", THREE_THAT_REST + """
            minute(1); cost(0, 100) = 0; cost(58, 100) = 0; cost(4, 1000000) = 0; cost(3, 100) = 34; fetch(0); remove(3); cost(3, 100) = 0
            cost(7, 100) = 50
            """);
        edges.says(part, "UNKNOWN", THREE_THAT_REST + "minute(1); cost(-1, 3) = -1; cost(0, 3) = 0; cost(59, 3) = 1; cost(60, 3) = -1");
        edges.says(part, "OUTSIDE", THREE_THAT_REST + "minute(1); cost(3, -1) = -2; cost(3, 1000001) = -2; cost(0, -1) = -2; count(12) = 0");
        edges.says(part, "NOUGHT: none went.", "cost(0, 5) = -26; status() = 6; cost(0, 0) = -26;" + TWO + """
            cost(0, 5) = -26; program(0, 1); start(0, 0); cost(0, 5) = -26; minute(1); cost(0, 5) = 5; fetch(0); remove(0); cost(0, 5) = -26
            cost(1, 5) = -26; count(12) = 6; back(1); cost(0, 5) = -26
            """);
    }

    private static void count(Edges edges) {
        String part = "Promise 36";
        edges.says(part, "0 TIME, 1 MACHINES, 2 PROGRAMS that are there, 3 LOADS, 4 TICKETS given ever,", """
            count(0) = 0; minute(3); count(0) = 3; machine(0, 0, 9, 0); machine(59, 4, 0, 0); count(1) = 2; remove(0); count(1) = 1; program(0, 0)
            program(39, 1); count(2) = 2; program(0, 5); count(2) = 2; takeOut(39); count(2) = 1; load(0, 1, 0); load(0, 1, 0); count(3) = 2
            count(4) = 2; machine(0, 0, 9, 0); put(0, 0); count(3) = 2; fetch(0); count(3) = 2; load(0, 0, 0) = -2; count(4) = 2; back(1) = 2
            count(0) = 2; count(1) = 0; count(2) = 0; count(3) = 0; count(4) = 2
            """);
        // All of them at once, no two alike.
        edges.says(part, "0 TIME, 1 MACHINES, 2 PROGRAMS that are there, 3 LOADS, 4 TICKETS given ever,", """
            minute(1); load(0, 1, 0); back(1); load(0, 1, 0); load(0, 1, 0); load(0, 1, 0); load(0, 1, 0); load(0, 1, 0); program(0, 1)
            step(0, 0, 0, 2); program(1, 1); step(1, 0, 4, 50); program(2, 0); machine(0, 0, 9, 3); machine(1, 1, 9, 0); machine(2, 2, 9, 0)
            machine(3, 3, 9, 0); put(0, 0); put(1, 1); put(2, 2); tube(0, 1, 60); tube(1, 20, 0); coin(0, 1, 2); coin(0, 0, 5); pay(0) = 42; pay(1)
            pay(2); start(0, 0); start(1, 1); start(2, 1); minute(9); told(9, 0) = -21; told(9, 0) = -21; told(9, 0) = -21; told(9, 0) = -21
            told(9, 0) = -21; told(9, 0) = -21; told(9, 0) = -21; back(1) = 8; count(0) = 8; count(1) = 4; count(2) = 3; count(3) = 5; count(4) = 6
            count(5) = 2; count(6) = 63; count(7) = 45; count(8) = 42; count(9) = 3; count(10) = 20; count(11) = 8; count(12) = 7
            """);
        edges.says(part, "5 RUNS that go on,", "bound(10, 9, 9);" + TWO + """
            program(0, 1); step(0, 0, 0, 2); count(5) = 0; start(0, 0); count(5) = 1; start(1, 0); count(5) = 2; minute(1); told(1, 4) = 3
            count(5) = 2; stop(0); count(5) = 1; minute(2); count(5) = 0; program(0, 0); pay(0); start(0, 0); count(5) = 0
            """);
        edges.says(part, "10 WATER that went off ever,", TWO + """
            program(0, 2); step(0, 0, 0, 2); step(0, 1, 3, 1); start(0, 0); start(1, 0); minute(2); count(10) = 0; stop(1); count(10) = 20; minute(1)
            count(10) = 40; fetch(0); remove(0); count(10) = 40; pay(1); start(1, 0); breaks(1, 2); minute(1); count(10) = 40; minute(1)
            count(10) = 50
            """);
        edges.says(part, "11 minutes to which back() can go,", "count(11) = 0; minute(1); count(11) = 1; minute(60); count(11) = 61; back(60); count(11) = 1; back(1); count(11) = 0;" + "minute(60);".repeat(5) + """
            count(11) = 300; minute(1); count(11) = 300; back(1); count(11) = 299; back(299) = 1; count(11) = 0; minute(2); count(11) = 2
            """);
        edges.says(part, "12 FINDINGS ever.", """
            count(12) = 0; told(0, 0) = -21; count(12) = 1; told(60, 0) = -1; told(0, 13) = -2; stop(60) = -1; back(1) = -3; trace(0) = -5
            count(12) = 1; told(0, 0) = -21; count(12) = 2; minute(1); back(1); count(12) = 2; takeOut(0) = 0; credit(0) = 0; count(12) = 2
            """);
        edges.says(part, "OUTSIDE.", "count(-1) = -2; count(0) = 0; count(12) = 0; count(13) = -2; count(2147483647) = -2; count(12) = 0");
    }

    private static void countOfMoney(Edges edges) {
        String part = "Promise 36";
        edges.says(part, "6 money in all TUBES,", """
            count(6) = 0; tube(0, 5, 3); tube(11, 7, 2); count(6) = 29; machine(0, 0, 9, 6); coin(0, 0, 2); count(6) = 39; refund(0); count(6) = 29
            tube(0, 6, 1); count(6) = 20; coin(0, 0, 1); pay(0) = 0; count(6) = 26; tube(0, 6, 0); count(6) = 14
            """);
        edges.says(part, "7 money put in ever, 8 given back ever (CHANGE, and CREDIT), 9 paid ever,", """
            tube(0, 5, 3); tube(1, 1, 9); machine(0, 0, 9, 4); machine(1, 0, 9, 0); count(7) = 0; coin(0, 0, 1); count(7) = 5; count(8) = 0
            count(9) = 0; pay(0) = 1; count(7) = 5; count(8) = 1; count(9) = 4; coin(0, 0, 3); count(7) = 20; refund(0) = 15; count(8) = 16
            count(9) = 4; tube(2, 600, 0); coin(1, 2, 1); pay(1) = -29; count(7) = 620; count(8) = 616; count(9) = 4; pay(1) = 0; count(9) = 4
            remove(0); remove(1); count(7) = 620; count(8) = 616; count(9) = 4
            """);
    }

    private static void back(Edges edges) {
        String part = "Promise 37";
        String sentence = "THE STATE becomes as it was n minutes ago (1 to 300; behind the MINUTE that ended then): TIME.";
        edges.says(part, sentence, """
            minute(1); machine(0, 0, 1, 0); minute(2); machine(1, 0, 1, 0); minute(3) = 6; machine(2, 0, 1, 0); back(0) = -2; back(1) = 5
            count(1) = 2; back(2) = 3; count(1) = 1; back(1) = 2; count(1) = 1; back(1) = 1; count(1) = 0; back(1) = 0; count(1) = 0; back(1) = -3
            """);
        edges.says(part, sentence, "minute(60);".repeat(6) + "back(301) = -2; back(300) = 60; count(0) = 60; back(1) = -3");
        edges.says(part, "OUTSIDE", "minute(60);".repeat(6) + """
            back(0) = -2; back(-1) = -2; back(301) = -2; back(-2147483648) = -2; back(2147483647) = -2; count(0) = 360; count(12) = 0
            """);
        edges.says(part, "STATE: it is not kept.", "back(1) = -3; back(300) = -3; minute(2); back(3) = -3; back(300) = -3; count(0) = 2; back(2) = 0; back(1) = -3; count(12) = 0;" + "minute(60);".repeat(6) + """
            back(300) = 60; back(1) = -3; minute(1); back(2) = -3; back(1) = 60
            """);
        String gone = "(What was kept of later TIMES is gone; count(12) stays.)";
        edges.says(part, gone, """
            minute(2); machine(0, 0, 1, 0); minute(2) = 4; back(3) = 1; count(1) = 0; minute(3) = 4; count(1) = 0; back(1) = 3; count(1) = 0
            told(0, 0) = -21; count(12) = 1; back(1) = 2; count(12) = 1; count(1) = 0
            """);
        edges.says(part, gone, """
            minute(5); back(4) = 1; machine(0, 0, 1, 0); minute(4) = 5; back(1) = 4; count(1) = 1; back(3) = 1; count(1) = 0; count(11) = 1
            """);
    }

    private static void digest(Edges edges) {
        String part = "Promise 38";
        String sentence = "A long h, 17, then h * 31 + v for: TIME; for each PLACE KIND (-1 without a MACHINE, and nothing else of it),"
                + " WATER that stands, LAMP, minutes that are left, LOADS, CREDIT; for each TUBE its coins; for each LOAD where it is (about 3).";
        edges.says(part, sentence, "digest() = " + digestOf(0, new long[60][], new long[12], new long[0]));
        long[][] places = new long[60][];
        places[0] = new long[] {0, 10, 2, 5, 1, 0};
        places[1] = new long[] {1, 0, 3, 6, 1, 0};
        places[59] = new long[] {4, 0, 4, 0, 0, 14};
        long[] coins = new long[12];
        coins[0] = 7;
        coins[11] = 9;
        edges.says(part, sentence, "bound(10, 9, 9);" + TWO + """
            tube(0, 2, 0); tube(11, 3, 9); machine(59, 4, 0, 0); coin(59, 0, 7); program(0, 2); step(0, 0, 0, 4); step(0, 1, 4, 2); start(0, 0); start(1, 0); load(0, 1, 0); load(0, 1, 0)
            machine(5, 0, 1, 0); put(5, 3); fetch(3); remove(5); breaks(59, 1); minute(1)
            digest() =""" + digestOf(1, places, coins, new long[] {0, 1, -1, -2}));
        places[0] = null;
        places[1] = null;
        places[59] = null;
        edges.says(part, sentence, "minute(60); digest() = " + digestOf(60, places, new long[12], new long[0]));
    }

    private static long digestOf(long time, long[][] places, long[] coins, long[] loads) {
        long h = 17 * 31 + time;
        for (long[] place : places) {
            for (long v : place == null ? new long[] {-1} : place) {
                h = h * 31 + v;
            }
        }
        for (long v : coins) {
            h = h * 31 + v;
        }
        for (long v : loads) {
            h = h * 31 + v;
        }
        return h;
    }

    private static void status(Edges edges) {
        String part = "Promise 39";
        edges.says(part, "The latest FINDING (1 to 13) of a call that was FOUND", """
            told(0, 0) = -21; status() = 1; minutes(0) = -23; status() = 3; told(60, 0) = -1; told(0, 13) = -2; back(1) = -3; trace(0) = -5
            status() = 3; program(0, -1) = -33; status() = 13; machine(0, 0, 1, 0); status() = 13; told(0, 0) = 0; status() = 13; told(1, 0) = -21
            status() = 1; minute(1); back(1); status() = 1
            """);
        edges.says(part, "0: none so far.", """
            status() = 0; told(60, 0) = -1; load(10, 1, 0) = -2; back(1) = -3; trace(0) = -5; machine(0, 0, 1, 0); machine(0, 0, 1, 0) = -3
            status() = 0; told(1, 0) = -21; status() = 1
            """);
    }
}
