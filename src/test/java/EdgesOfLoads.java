/** Part 4 of the terms, and promises 20 to 25: loads. */
final class EdgesOfLoads {
    static void hold(Edges edges) {
        loads(edges);
        mixing(edges);
        shared(edges);
        tickets(edges);
        load(edges);
        mix(edges);
        put(edges);
        putFindings(edges);
        fetch(edges);
        about(edges);
        share(edges);
    }

    private static void loads(Edges edges) {
        StringBuilder all = new StringBuilder();
        for (int i = 0; i < 500; i++) {
            all.append("load(" + i % 10 + ", " + (i + 1) + ", " + i / 50 + ") = " + i + ";");
        }
        edges.says("4", "LOADS 0 .. 499, as they come,", all + """
            load(0, 1, 0) = -4; about(0, 1) = 1; about(499, 1) = 500; about(500, 1) = -1; about(-1, 1) = -1; count(3) = 500; about(499, 2) = 9
            """);
        edges.says("4", "have a kind, a weight, a COLOUR (0 .. 9), a TICKET,", """
            load(3, 70, -1) = -2; load(3, 70, 0) = 0; load(4, 80, 9) = 1; load(3, 70, 10) = -2; about(0, 0) = 3; about(0, 1) = 70; about(0, 2) = 0
            about(0, 4) = 1; about(1, 0) = 4; about(1, 1) = 80; about(1, 2) = 9; about(1, 4) = 2; count(3) = 2
            """);
        edges.says("4", "and WAIT, are in a MACHINE, or FETCHED.", """
            load(0, 1, 0); load(0, 1, 0); about(0, 3) = -1; machine(0, 0, 1, 0); machine(59, 0, 1, 0); put(0, 0); about(0, 3) = 0; put(59, 1)
            about(1, 3) = 59; fetch(0); about(0, 3) = -2; put(0, 0) = -22; fetch(0) = -22; about(0, 3) = -2; pay(59); program(0, 1); start(59, 0)
            about(1, 3) = 59; minute(1); about(1, 3) = 59; breaks(59, 1); minute(1); about(1, 3) = 59
            """);
    }

    private static void mixing(Edges edges) {
        StringBuilder first = new StringBuilder();
        for (int a = 0; a < 10; a++) {
            for (int b = 0; b < 10; b++) {
                first.append("mix(" + a + ", " + b + ", true) = " + (a == b ? -2 : 1) + ";");
            }
        }
        String sentence = "Which COLOURS may MIX is a table (all at first, each with itself for good).";
        edges.says("4", sentence, first.toString());
        edges.says("4", sentence, """
            machine(0, 0, 9, 0); load(0, 1, 3); load(0, 1, 3); mix(3, 3, false) = -2; put(0, 0) = 1; put(0, 1) = 2; load(0, 1, 4); put(0, 2) = 3
            mix(3, 4, false) = 1; load(0, 1, 3); put(0, 3) = -30; fetch(2); put(0, 3) = 3; mix(4, 3, true) = 0; load(0, 1, 4); put(0, 4) = 4
            """);
        edges.says("4", sentence, """
            machine(0, 0, 9, 0); load(0, 1, 1); load(0, 1, 2); load(0, 1, 3); mix(1, 2, false); mix(2, 3, false); put(0, 0); put(0, 1) = -30
            put(0, 2) = 2; fetch(0); put(0, 1) = -30; fetch(2); put(0, 1) = 1
            """);
    }

    private static void shared(Edges edges) {
        edges.says("4", "In a BANK a LOAD is SHARED by the ROOMS of its DRUMS.", """
            machine(0, 4, 1, 0); drum(0, 2); drum(0, 3); drum(0, 4); drum(0, 5); drum(0, 6); load(0, 21, 0); put(0, 0) = 1; share(0, 0) = 1
            share(0, 1) = 2; share(0, 2) = 3; share(0, 3) = 4; share(0, 4) = 5; share(0, 5) = 6; share(0, 6) = -24
            """);
        edges.says("4", "In a BANK a LOAD is SHARED by the ROOMS of its DRUMS.", """
            machine(0, 4, 0, 0); drum(0, 100); load(0, 1, 0); load(0, 99, 0); put(0, 0); share(0, 0) = 1; put(0, 1) = 2; share(1, 0) = 99
            share(0, 1) = -24
            """);
    }

    private static void tickets(Edges edges) {
        String sentence = "TICKETS are counted by the house, from 1 on; none is given twice, whatever back() undoes.";
        edges.says("4", sentence, """
            count(4) = 0; load(0, 1, 0); about(0, 4) = 1; load(0, 1, 0); about(1, 4) = 2; load(0, 0, 0) = -2; load(10, 1, 0) = -2; load(0, 1, 10) = -2
            count(4) = 2; load(0, 1, 0); about(2, 4) = 3; count(4) = 3
            """);
        edges.says("4", sentence, """
            load(0, 1, 0); minute(1); load(0, 2, 0); load(0, 3, 0); about(2, 4) = 3; back(1) = 0; count(3) = 1; count(4) = 3; load(0, 4, 0) = 1
            about(1, 4) = 4; about(1, 1) = 4; about(0, 4) = 1; minute(1); load(0, 5, 0); about(2, 4) = 5; back(1); about(1, 4) = 4; count(4) = 5
            load(0, 6, 0) = 2; about(2, 4) = 6
            """);
    }

    private static void load(Edges edges) {
        edges.says("Promise 20", "A LOAD of a kind (0 to 9), a weight (1 to 20000), a COLOUR: its number.", """
            load(-1, 1, 0) = -2; load(0, 1, 0) = 0; load(9, 1, 0) = 1; load(10, 1, 0) = -2; load(0, 0, 0) = -2; load(0, -1, 0) = -2
            load(0, 20000, 0) = 2; load(0, 20001, 0) = -2; load(0, 1, -1) = -2; load(0, 1, 9) = 3; load(0, 1, 10) = -2; about(1, 0) = 9
            about(2, 1) = 20000; about(3, 2) = 9; count(3) = 4; count(4) = 4
            """);
        edges.says("Promise 20", "OUTSIDE", """
            load(10, 1, 0) = -2; load(0, 0, 0) = -2; load(0, 1, 10) = -2; count(3) = 0; count(4) = 0; count(12) = 0; about(0, 0) = -1
            """);
        edges.says("Promise 20", "FULL.", "load(0, 1, 0);".repeat(499) + """
            load(0, 1, 0) = 499; load(0, 1, 0) = -4; load(0, 1, 0) = -4; count(3) = 500; count(4) = 500; count(12) = 0
            """);
        // A load that was fetched keeps its number; the minute that is undone gives numbers back.
        edges.says("Promise 20", "FULL.", "machine(0, 0, 1, 0); minute(1);" + "load(0, 1, 0);".repeat(500) + """
            put(0, 0); fetch(0); load(0, 1, 0) = -4; back(1) = 0; load(0, 1, 0) = 0; about(0, 4) = 501
            """);
    }

    private static void mix(Edges edges) {
        edges.says("Promise 21", "Two COLOURS may MIX, or may not: what it was (1, 0).", """
            mix(0, 9, false) = 1; mix(0, 9, false) = 0; mix(9, 0, false) = 0; mix(9, 0, true) = 0; mix(0, 9, true) = 1; mix(0, 9, true) = 1
            mix(0, 8, false) = 1; mix(0, 9, false) = 1; mix(8, 9, false) = 1
            """);
        edges.says("Promise 21", "OUTSIDE: also a COLOUR with itself.", """
            mix(-1, 0, false) = -2; mix(0, -1, false) = -2; mix(10, 0, false) = -2; mix(0, 10, false) = -2; mix(0, 0, false) = -2
            mix(9, 9, true) = -2; mix(5, 5, false) = -2; mix(10, 10, true) = -2; machine(0, 0, 9, 0); load(0, 1, 0); load(0, 1, 0); put(0, 0)
            put(0, 1) = 2; mix(0, 9, true) = 1; count(12) = 0
            """);
        edges.says("Promise 21", "(LOADS that are in a MACHINE stay.)", """
            machine(0, 0, 9, 0); load(0, 1, 0); load(0, 1, 1); put(0, 0); put(0, 1); mix(0, 1, false) = 1; told(0, 6) = 2; about(0, 3) = 0
            about(1, 3) = 0; pay(0); program(0, 1); start(0, 0) = 1; minute(1); load(0, 1, 2); put(0, 2) = 3; load(0, 1, 0); put(0, 3) = -30
            fetch(1) = 0; put(0, 3) = 3
            """);
    }

    private static void put(Edges edges) {
        edges.says("Promise 22", "A LOAD comes into the MACHINE of a PLACE: how many it has.", """
            machine(0, 0, 9, 0); machine(59, 3, 9, 0); load(0, 1, 0); load(0, 1, 0); load(0, 1, 0); put(0, 2) = 1; put(0, 0) = 2; put(59, 1) = 1
            about(2, 3) = 0; about(1, 3) = 59; told(0, 6) = 2; told(59, 6) = 1; fetch(2); load(0, 1, 0); put(0, 3) = 2
            """);
        edges.says("Promise 22", "UNKNOWN: PLACE, LOAD", """
            machine(0, 0, 9, 0); machine(59, 0, 9, 0); put(0, 0) = -1; load(0, 1, 0); load(0, 1, 0); put(-1, 0) = -1; put(60, 0) = -1; put(0, -1) = -1
            put(0, 2) = -1; put(0, 0) = 1; put(59, 1) = 1
            """);
        edges.says("Promise 22", "NO MACHINE", """
            load(0, 1, 0); put(0, 0) = -21; status() = 1; machine(0, 0, 9, 0); put(1, 0) = -21; put(0, 0) = 1; fetch(0); remove(0); load(0, 1, 0)
            put(0, 1) = -21; about(1, 3) = -1
            """);
        edges.says("Promise 22", "NO LOAD: it does not WAIT", """
            machine(0, 0, 9, 0); machine(1, 0, 9, 0); load(0, 1, 0); put(0, 0) = 1; put(0, 0) = -22; status() = 2; put(1, 0) = -22; about(0, 3) = 0
            fetch(0); put(0, 0) = -22; about(0, 3) = -2; told(0, 6) = 0
            """);
        edges.says("Promise 22", "BUSY: a RUN, or BROKEN", """
            machine(0, 0, 9, 0); load(0, 1, 0); load(0, 1, 0); put(0, 0); pay(0); program(0, 1); start(0, 0); put(0, 1) = -27; status() = 7; minute(1)
            put(0, 1) = 2; load(0, 1, 0); breaks(0, 1); minute(1); put(0, 2) = -27; told(0, 6) = 2; mend(0); put(0, 2) = 3
            """);
    }

    private static void putFindings(Edges edges) {
        edges.says("Promise 22", "NOUGHT: a BANK without DRUMS", """
            machine(0, 4, 0, 0); load(0, 1, 0); put(0, 0) = -26; status() = 6; about(0, 3) = -1; drum(0, 1); put(0, 0) = 1; machine(1, 4, 1, 0)
            load(0, 1, 0); put(1, 1) = 1; load(0, 20000, 0); machine(2, 4, 0, 0); put(2, 2) = -26
            """);
        edges.says("Promise 22", "ROOM: all weights would be above it", """
            machine(0, 0, 10, 0); load(0, 11, 0); load(0, 10, 0); load(0, 4, 0); load(0, 7, 0); load(0, 6, 0); put(0, 0) = -31; status() = 11
            put(0, 1) = 1; fetch(1); put(0, 2) = 1; put(0, 3) = -31; put(0, 4) = 2; load(0, 1, 0); put(0, 5) = -31; fetch(2); put(0, 5) = 2
            machine(1, 4, 5, 0); drum(1, 6); put(1, 0) = 1; load(0, 1, 0); put(1, 6) = -31
            """);
        edges.says("Promise 22", "MIX", """
            machine(0, 0, 10, 0); mix(0, 1, false); load(0, 1, 2); load(0, 1, 0); load(0, 1, 1); put(0, 0); put(0, 1) = 2; put(0, 2) = -30
            status() = 10; about(2, 3) = -1; fetch(1); put(0, 2) = 2; load(0, 1, 0); put(0, 3) = -30; machine(1, 0, 10, 0); put(1, 3) = 1
            """);
        // The last one of eight counts, and so does the first one.
        edges.says("Promise 22", "MIX", "machine(0, 0, 99, 0);" + "load(0, 1, 3);".repeat(6) + """
            load(0, 1, 5); load(0, 1, 4); put(0, 0); put(0, 1); put(0, 2); put(0, 3); put(0, 4); put(0, 5); put(0, 6) = 7; mix(5, 4, false)
            put(0, 7) = -30; mix(5, 4, true); mix(3, 4, false); put(0, 7) = -30; mix(3, 4, true); put(0, 7) = 8
            """);
        edges.says("Promise 22", "FULL: 8 (behind FINDINGS).", "machine(0, 0, 10, 0);" + "load(0, 1, 0);".repeat(8) + """
            load(0, 2, 0); load(0, 3, 0); load(0, 1, 1); mix(0, 1, false); put(0, 0); put(0, 1); put(0, 2); put(0, 3); put(0, 4); put(0, 5)
            put(0, 6) = 7; put(0, 7) = 8; put(0, 8) = -4; count(12) = 0; put(0, 9) = -31; put(0, 10) = -30; put(0, 0) = -22; told(0, 6) = 8
            about(8, 3) = -1; breaks(0, 1); minute(1); put(0, 8) = -27; mend(0); put(0, 8) = -4; fetch(7); put(0, 8) = 8; count(12) = 4
            """);
    }

    private static void fetch(Edges edges) {
        edges.says("Promise 23", "A LOAD is FETCHED: the PLACE where it was.", """
            machine(0, 0, 9, 0); machine(59, 4, 9, 0); load(0, 1, 0); load(0, 1, 0); load(0, 1, 0); put(0, 0); put(59, 1); put(0, 2); fetch(0) = 0
            about(0, 3) = -2; told(0, 6) = 1; fetch(1) = 59; told(59, 6) = 0; about(2, 3) = 0; fetch(2) = 0; told(0, 6) = 0; remove(0) = 0
            count(3) = 3
            """);
        // Whichever of them is fetched, the others keep their weights (1, 10, 100) and colours.
        String three = """
            machine(0, 0, 999, 0); load(0, 1, 1); load(0, 10, 2); load(0, 100, 3); mix(1, 4, false); mix(2, 5, false); mix(3, 6, false); load(0, 1, 4)
            load(0, 1, 5); load(0, 1, 6); put(0, 0); put(0, 1); put(0, 2) = 3; put(0, 3) = -30; put(0, 4) = -30; put(0, 5) = -30
            """;
        String sentence = "A LOAD is FETCHED: the PLACE where it was.";
        edges.says("Promise 23", sentence, three + """
            fetch(0) = 0; load(0, 890, 0); put(0, 6) = -31; put(0, 4) = -30; put(0, 5) = -30; put(0, 3) = 3; load(0, 888, 0); put(0, 7) = 4
            """);
        edges.says("Promise 23", sentence, three + """
            fetch(1) = 0; load(0, 899, 0); put(0, 6) = -31; put(0, 3) = -30; put(0, 5) = -30; put(0, 4) = 3; load(0, 897, 0); put(0, 7) = 4
            """);
        edges.says("Promise 23", sentence, three + """
            fetch(2) = 0; load(0, 989, 0); put(0, 6) = -31; put(0, 3) = -30; put(0, 4) = -30; put(0, 5) = 3; load(0, 987, 0); put(0, 7) = 4
            """);
        edges.says("Promise 23", "UNKNOWN", """
            fetch(0) = -1; load(0, 1, 0); machine(0, 0, 9, 0); put(0, 0); fetch(-1) = -1; fetch(1) = -1; fetch(0) = 0
            """);
        edges.says("Promise 23", "NO LOAD: it is in no MACHINE", """
            load(0, 1, 0); fetch(0) = -22; status() = 2; about(0, 3) = -1; machine(0, 0, 9, 0); put(0, 0) = 1; fetch(0) = 0; fetch(0) = -22
            about(0, 3) = -2; count(12) = 2
            """);
        edges.says("Promise 23", "BUSY: a RUN.", """
            load(0, 1, 0); machine(0, 0, 9, 0); put(0, 0); pay(0); program(0, 1); step(0, 0, 4, 2); start(0, 0); fetch(0) = -27; status() = 7
            minute(1); fetch(0) = -27; about(0, 3) = 0; told(0, 6) = 1; minute(1); fetch(0) = 0; load(0, 1, 0); put(0, 1); breaks(0, 1); minute(1)
            told(0, 4) = 4; fetch(1) = 0
            """);
    }

    private static void about(Edges edges) {
        edges.says("Promise 24", "Of a LOAD: 0 kind, 1 weight, 2 COLOUR, 3 the PLACE where it is (-1 WAITS, -2 FETCHED), 4 its TICKET.", """
            load(9, 20000, 8); load(7, 6, 5); about(0, 0) = 9; about(0, 1) = 20000; about(0, 2) = 8; about(0, 3) = -1; about(0, 4) = 1
            about(1, 0) = 7; about(1, 1) = 6; about(1, 2) = 5; about(1, 4) = 2; machine(59, 0, 9, 0); put(59, 1); about(1, 3) = 59; fetch(1)
            about(1, 3) = -2; about(1, 0) = 7; about(1, 4) = 2; about(0, 3) = -1
            """);
        edges.says("Promise 24", "UNKNOWN", "about(0, 1) = -1; load(0, 5, 0); about(-1, 1) = -1; about(0, 1) = 5; about(1, 1) = -1");
        edges.says("Promise 24", "OUTSIDE.", "load(3, 5, 0); about(0, -1) = -2; about(0, 0) = 3; about(0, 4) = 1; about(0, 5) = -2; count(12) = 0");
    }

    private static void share(Edges edges) {
        edges.says("Promise 25", "Grams of a LOAD in DRUM d of its BANK.", """
            machine(0, 4, 10, 0); machine(59, 4, 1, 0); drum(0, 30); drum(59, 1); load(0, 8, 0); load(0, 2, 0); load(0, 1, 0); put(0, 0); put(59, 1)
            put(0, 2); share(0, 0) = 2; share(0, 1) = 6; share(1, 0) = 1; share(1, 1) = 1; share(2, 0) = 0; share(2, 1) = 1
            """);
        edges.says("Promise 25", "UNKNOWN", """
            share(0, 0) = -1; machine(0, 4, 10, 0); load(0, 8, 0); put(0, 0); share(-1, 0) = -1; share(0, 0) = 8; share(1, 0) = -1
            """);
        edges.says("Promise 25", "NO LOAD: it is in no MACHINE", """
            machine(0, 4, 10, 0); load(0, 8, 0); share(0, 0) = -22; status() = 2; put(0, 0); share(0, 0) = 8; fetch(0); share(0, 0) = -22
            count(12) = 2
            """);
        edges.says("Promise 25", "NOT THAT MACHINE", """
            machine(0, 0, 10, 0); machine(1, 1, 10, 0); machine(2, 2, 10, 0); machine(3, 3, 10, 0); machine(4, 4, 10, 0); load(0, 8, 0); load(0, 8, 0)
            load(0, 8, 0); load(0, 8, 0); load(0, 8, 0); put(0, 0); put(1, 1); put(2, 2); put(3, 3); put(4, 4); share(0, 0) = -25; share(1, 0) = -25
            share(2, 0) = -25; share(3, 0) = -25; status() = 5; share(4, 0) = 8; count(12) = 4
            """);
        edges.says("Promise 25", "BEHIND THE END: no such DRUM (below 0, too).", """
            machine(0, 4, 10, 0); load(0, 8, 0); put(0, 0); share(0, -1) = -24; share(0, 0) = 8; share(0, 1) = -24; status() = 4
            share(0, 2147483647) = -24; share(0, -2147483648) = -24; share(0, 6) = -24; fetch(0); drum(0, 10); drum(0, 10); drum(0, 10); drum(0, 10)
            drum(0, 10); load(0, 6, 0); put(0, 1); share(1, 5) = 1; share(1, 6) = -24; share(1, 59) = -24; share(1, -1) = -24
            """);
    }
}
