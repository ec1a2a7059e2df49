/** Part 2 of the terms, and promises 9 to 12: programs. */
final class EdgesOfPrograms {
    static void hold(Edges edges) {
        programs(edges);
        program(edges);
        takeOut(edges);
        step(edges);
        minutes(edges);
    }

    private static void programs(Edges edges) {
        String sentence = "PROGRAMS 0 .. 39 are none (at first), or rows of 0 to 30 STEPS, each with a kind and MINUTES (1 .. 200).";
        edges.says("2", sentence, """
            program(-1, 1) = -1; minutes(0) = -23; minutes(39) = -23; program(0, 0) = 1; minutes(0) = 0; program(39, 30) = 1; minutes(39) = 30
            program(40, 1) = -1; program(38, 31) = -2; minutes(38) = -23; program(1, 1) = 1; minutes(1) = 1; count(2) = 3
            """);
        edges.says("2", sentence, """
            program(0, 1); step(0, 0, 0, 0) = -2; minutes(0) = 1; step(0, 0, 0, 200) = 1; minutes(0) = 200; step(0, 0, 0, 201) = -2; minutes(0) = 200
            step(0, 0, 0, 1) = 1; minutes(0) = 1
            """);
        StringBuilder all = new StringBuilder();
        for (int p = 0; p < 40; p++) {
            all.append("minutes(" + p + ") = -23; program(" + p + ", " + (p % 31) + ") = 1; minutes(" + p + ") = " + (p % 31) + ";");
        }
        for (int p = 0; p < 40; p++) {
            all.append("minutes(" + p + ") = " + (p % 31) + ";");
        }
        edges.says("2", sentence, all + "count(2) = 40");
    }

    private static void program(Edges edges) {
        edges.says("Promise 9", "A PROGRAM becomes a row of n STEPS, each a REST of 1 minute: 1.", """
            program(0, 0) = 1; minutes(0) = 0; step(0, 0, 0, 1) = -24; program(0, 1) = 1; minutes(0) = 1; step(0, 0, 0, 9) = 1; step(0, 1, 0, 1) = -24
            program(0, 30) = 1; minutes(0) = 30; step(0, 29, 0, 9) = 1; step(0, 30, 0, 1) = -24; program(0, 29) = 1; minutes(0) = 29
            step(0, 29, 0, 1) = -24; program(0, 0) = 1; minutes(0) = 0; count(2) = 1
            """);
        // A press can do nothing but a REST and a WARM, and a WARM would ask for heat.
        edges.says("Promise 9", "A PROGRAM becomes a row of n STEPS, each a REST of 1 minute: 1.", """
            bound(0, 0, 1); machine(0, 3, 1, 0); load(0, 1, 0); put(0, 0); pay(0); program(0, 3); step(0, 1, 2, 7); program(0, 30) = 1
            start(0, 0) = 1; left(0) = 30; minute(29); left(0) = 1; told(0, 3) = 0; minute(1); left(0) = 0; told(0, 3) = 1; book(0, 4) = 30
            book(0, 3) = 0
            """);
        edges.says("Promise 9", "UNKNOWN", """
            program(-1, 0) = -1; program(0, 0) = 1; program(39, 0) = 1; program(40, 0) = -1; count(2) = 2; count(12) = 0
            """);
        edges.says("Promise 9", "OUTSIDE: n above 30", """
            program(0, 30) = 1; program(0, 31) = -2; program(1, 31) = -2; program(1, 2147483647) = -2; minutes(0) = 30; count(2) = 1; count(12) = 0
            """);
        edges.says("Promise 9", "SIZE: n below 0.", """
            program(0, -1) = -33; status() = 13; program(0, -2147483648) = -33; count(2) = 0; count(12) = 2; program(0, 0) = 1; program(0, 2)
            program(0, -1) = -33; minutes(0) = 2
            """);
    }

    private static void takeOut(Edges edges) {
        edges.says("Promise 10", "A PROGRAM is none from now on: 1", """
            program(0, 2); program(1, 3); takeOut(0) = 1; minutes(0) = -23; step(0, 0, 0, 1) = -23; minutes(1) = 3; count(2) = 1; program(0, 4) = 1
            minutes(0) = 4
            """);
        edges.says("Promise 10", "A PROGRAM is none from now on: 1", """
            program(0, 2); step(0, 0, 0, 9); machine(0, 0, 1, 0); load(0, 1, 0); put(0, 0); pay(0); takeOut(0) = 1; start(0, 0) = -23; program(0, 2)
            minutes(0) = 2; start(0, 0) = 1; takeOut(0) = 1; left(0) = 2; minute(1); left(0) = 1; minute(1); told(0, 3) = 1
            """);
        edges.says("Promise 10", "0: it was.", """
            takeOut(0) = 0; takeOut(39) = 0; program(0, 0); takeOut(0) = 1; takeOut(0) = 0; program(39, 30); takeOut(39) = 1; takeOut(39) = 0
            count(12) = 0
            """);
        edges.says("Promise 10", "UNKNOWN.", """
            program(0, 1); program(39, 1); takeOut(-1) = -1; takeOut(40) = -1; count(2) = 2; takeOut(0) = 1; takeOut(39) = 1
            """);
    }

    private static void step(Edges edges) {
        edges.says("Promise 11", "STEP i of a PROGRAM becomes a kind (0 to 4) with MINUTES (1 to 200): 1.", """
            program(0, 3); step(0, 0, 0, 1) = 1; minutes(0) = 3; step(0, 1, 4, 200) = 1; minutes(0) = 202; step(0, 2, 2, 5) = 1; minutes(0) = 206
            step(0, 1, 1, 2) = 1; minutes(0) = 8; step(0, 0, -1, 1) = -2; step(0, 0, 5, 1) = -2; step(0, 0, 1, 0) = -2; step(0, 0, 1, 201) = -2
            step(0, 0, 1, -1) = -2; minutes(0) = 8
            """);
        edges.says("Promise 11", "STEP i of a PROGRAM becomes a kind (0 to 4) with MINUTES (1 to 200): 1.", """
            machine(0, 0, 1, 0); load(0, 1, 0); put(0, 0); pay(0); program(0, 4); step(0, 0, 0, 200); step(0, 1, 1, 1); step(0, 2, 3, 2); start(0, 0)
            left(0) = 204; minute(60); minute(60); minute(60); minute(19); told(0, 5) = 1990; minute(1); told(0, 5) = 2000; used(0) = 10; minute(1)
            used(0) = 0; used(1) = 4; told(0, 5) = 2000; minute(1); told(0, 5) = 0; used(2) = 3; minute(1); used(2) = 3; left(0) = 1; minute(1)
            used(2) = 1; left(0) = 0; book(0, 0) = 204
            """);
        edges.says("Promise 11", "UNKNOWN", """
            program(0, 1); program(39, 1); step(-1, 0, 0, 9) = -1; step(40, 0, 0, 9) = -1; minutes(0) = 1; minutes(39) = 1; step(0, 0, 0, 9) = 1
            step(39, 0, 0, 9) = 1
            """);
        edges.says("Promise 11", "OUTSIDE", """
            program(0, 1); step(0, 0, -1, 9) = -2; step(0, 0, 5, 9) = -2; step(0, 0, 0, 0) = -2; step(0, 0, 0, 201) = -2; step(1, 0, 5, 9) = -2
            step(0, 1, 0, 201) = -2; minutes(0) = 1; count(12) = 0
            """);
        edges.says("Promise 11", "NO PROGRAM", """
            step(0, 0, 0, 1) = -23; status() = 3; step(39, 0, 4, 200) = -23; program(0, 0); step(0, 0, 0, 1) = -24; takeOut(0); step(0, 0, 0, 1) = -23
            count(12) = 4
            """);
        edges.says("Promise 11", "BEHIND THE END: i (below 0, too).", """
            program(0, 0); step(0, 0, 0, 1) = -24; program(0, 2); step(0, -1, 0, 9) = -24; step(0, 0, 0, 9) = 1; step(0, 1, 0, 9) = 1
            step(0, 2, 0, 9) = -24; status() = 4; step(0, 2147483647, 0, 9) = -24; step(0, -2147483648, 0, 9) = -24; minutes(0) = 18; program(1, 30)
            step(1, 29, 0, 2) = 1; step(1, 30, 0, 2) = -24; minutes(1) = 31; count(12) = 6
            """);
    }

    private static void minutes(Edges edges) {
        StringBuilder longest = new StringBuilder("program(0, 30);");
        for (int i = 0; i < 30; i++) {
            longest.append("step(0, " + i + ", " + i % 5 + ", 200);");
        }
        edges.says("Promise 12", "MINUTES of all its STEPS.", longest + """
            minutes(0) = 6000; step(0, 29, 0, 1); minutes(0) = 5801; step(0, 0, 0, 1); minutes(0) = 5602; program(0, 0); minutes(0) = 0
            """);
        // Minutes that pass leave a program alone.
        edges.says("Promise 12", "MINUTES of all its STEPS.", "program(0, 30); program(39, 30);" + Edges.each("step(0, #, 0, 5); step(39, #, 0, 7);", 30)
                + "minute(4); minute(1); minutes(0) = 150; minute(2); minutes(0) = 150; minutes(39) = 210; minute(60); minutes(0) = 150; minutes(39) = 210; minutes(1) = -23");
        edges.says("Promise 12", "UNKNOWN", "program(0, 1); program(39, 2); minutes(-1) = -1; minutes(0) = 1; minutes(39) = 2; minutes(40) = -1");
        edges.says("Promise 12", "NO PROGRAM.", """
            minutes(0) = -23; status() = 3; program(0, 0); minutes(0) = 0; takeOut(0); minutes(0) = -23; minutes(39) = -23; count(12) = 3
            """);
    }
}
