/** Part 3 of the terms, and promises 13 to 19: money. */
final class EdgesOfMoney {
    static void hold(Edges edges) {
        tubes(edges);
        credits(edges);
        changeOfOthers(edges);
        changeOfEachOther(edges);
        fewestCoins(edges);
        noChange(edges);
        tube(edges);
        coin(edges);
        pay(edges);
        payWithoutChange(edges);
        refund(edges);
        given(edges);
        coinsAndCredit(edges);
    }

    private static void tubes(Edges edges) {
        String sentence = "TUBES 0 .. 11 have a VALUE (0 at first: no coins) and coins (1000 at most).";
        edges.quote("3", "MONEY.");
        edges.says("3", sentence, """
            coins(-1, 0) = -1; coins(0, 0) = 0; coins(0, 1) = 0; coins(11, 0) = 0; coins(11, 1) = 0; coins(12, 0) = -1; tube(-1, 1, 1) = -1
            tube(12, 1, 1) = -1; tube(0, 1, 1000) = 1; tube(11, 2, 1001) = -2; tube(11, 2, 999) = 1; machine(0, 0, 1, 0); coin(0, 0, 1) = -4
            coin(0, 11, 2) = -4; coin(0, 11, 1) = 2; coins(11, 1) = 1000; coin(0, 5, 1) = -3; coins(0, 1) = 1000
            """);
    }

    private static void credits(Edges edges) {
        String sentence = "CREDIT of a PLACE: coins put in there that are not paid, or given back, yet: they lie in their TUBES.";
        edges.says("3", sentence, """
            tube(0, 5, 1); machine(0, 0, 1, 10); machine(1, 0, 1, 10); credit(0) = 0; coin(0, 0, 1) = 5; coins(0, 1) = 2; count(6) = 10; credit(1) = 0
            coin(0, 0, 1) = 10; coins(0, 1) = 3; pay(0) = 0; credit(0) = 0; coins(0, 1) = 3; coin(1, 0, 2) = 10; coins(0, 1) = 5; refund(1) = 10
            credit(1) = 0; coins(0, 1) = 3; count(6) = 15
            """);
        edges.says("3", sentence, """
            tube(0, 5, 0); machine(0, 0, 1, 1); coin(0, 0, 1) = 5; coins(0, 1) = 1; pay(0) = -29; credit(0) = 0; coins(0, 1) = 0; minute(1)
            coin(0, 0, 3) = 15; back(1); credit(0) = 0; coins(0, 1) = 0
            """);
    }

    private static void changeOfOthers(Edges edges) {
        String sentence = "CHANGE of an amount at a PLACE: coins of TUBES that are no CREDIT of another PLACE,";
        edges.says("3", sentence, """
            tube(0, 1, 0); tube(1, 3, 0); machine(0, 0, 1, 2); machine(59, 0, 1, 2); machine(5, 0, 1, 1); coin(0, 0, 1); coin(59, 0, 1) = 1
            coins(0, 1) = 2; coin(5, 1, 1) = 3; pay(5) = -29; credit(0) = 1; credit(59) = 1; coins(0, 1) = 2; coin(5, 1, 1); coin(5, 0, 2) = 5
            pay(5) = 4; given(1) = 1; given(0) = 1; coins(0, 1) = 3; credit(0) = 1
            """);
        edges.says("3", sentence, """
            tube(0, 1, 1); tube(1, 3, 0); machine(0, 0, 1, 2); machine(1, 0, 1, 2); coin(1, 0, 1) = 1; coin(0, 1, 1) = 3; pay(0) = 1; given(0) = 1
            coins(0, 1) = 1; credit(1) = 1; refund(1) = 1; coins(0, 1) = 0
            """);
        edges.says("3", sentence, """
            tube(0, 1, 0); tube(1, 3, 0); machine(0, 0, 1, 2); machine(1, 0, 1, 1); coin(1, 0, 1); coin(0, 1, 1); pay(0) = -29; pay(1) = 0
            coin(0, 1, 1); pay(0) = 1; given(0) = 1
            """);
    }

    private static void changeOfEachOther(Edges edges) {
        String sentence = "CHANGE of an amount at a PLACE: coins of TUBES that are no CREDIT of another PLACE,";
        edges.says("3", sentence, """
            tube(0, 1, 0); tube(1, 2, 0); machine(0, 0, 1, 1); machine(1, 0, 1, 1); coin(0, 0, 1); coin(1, 1, 1); pay(1) = -29; credit(0) = 1
            pay(0) = 0; coin(1, 1, 1); pay(1) = 1; coins(0, 1) = 0
            """);
        edges.says("3", sentence, """
            tube(0, 1, 0); tube(1, 2, 0); machine(0, 0, 1, 1); machine(59, 0, 1, 1); coin(59, 0, 1); coin(0, 1, 1); pay(0) = -29; credit(59) = 1
            refund(59); tube(0, 1, 1); coin(0, 1, 1); pay(0) = 1
            """);
    }

    /** Coins of values 1, 3, 4, 5, .. are where taking the greatest first goes wrong. */
    private static void fewestCoins(Edges edges) {
        edges.says("3", "as few as can be,", """
            tube(0, 1, 9); tube(1, 3, 2); tube(2, 4, 1); tube(3, 7, 0); machine(0, 0, 1, 1); coin(0, 3, 1) = 7; pay(0) = 6; given(0) = 0; given(1) = 2
            given(2) = 0; given(3) = 0
            """);
        edges.says("3", "as few as can be,", """
            tube(0, 1, 9); tube(1, 3, 1); tube(2, 4, 1); tube(3, 7, 0); machine(0, 0, 1, 1); coin(0, 3, 1) = 7; pay(0) = 6; given(0) = 2; given(1) = 0
            given(2) = 1; coins(0, 1) = 7
            """);
        edges.says("3", "as few as can be,", """
            tube(0, 1, 1000); tube(1, 50, 9); tube(2, 80, 9); tube(3, 501, 0); machine(0, 0, 1, 1); coin(0, 3, 1) = 501; pay(0) = 500; given(2) = 5
            given(1) = 2; given(0) = 0
            """);
        edges.says("3", "as few as can be,", """
            tube(0, 1, 500); tube(1, 501, 0); machine(0, 0, 1, 1); coin(0, 1, 1) = 501; pay(0) = 500; given(0) = 500; coins(0, 1) = 0
            machine(1, 0, 1, 0); tube(0, 1, 499); coin(1, 0, 1); tube(2, 9, 9) = -3; refund(1); coin(1, 1, 1); pay(1) = -29; coin(1, 1, 1)
            coin(1, 0, 1) = 502; pay(1) = -29; coins(0, 1) = 499
            """);
        String most = "of several ways the one with the most coins of the greatest VALUE, of these with the most of the next, and so on;";
        edges.says("3", most, """
            tube(0, 4, 2); tube(1, 3, 1); tube(2, 5, 1); tube(3, 9, 0); machine(0, 0, 1, 1); coin(0, 3, 1) = 9; pay(0) = 8; given(2) = 1; given(1) = 1
            given(0) = 0
            """);
        // 19 by three coins: 10 6 3 or 10 5 4; not 6 + 6 + 7 where 10 is left out.
        edges.says("3", most, """
            tube(0, 5, 9); tube(1, 4, 9); tube(2, 10, 1); tube(3, 6, 9); tube(4, 3, 9); tube(5, 20, 0); tube(6, 7, 9); machine(0, 0, 1, 1)
            coin(0, 5, 1) = 20; pay(0) = 19; given(2) = 1; given(6) = 0; given(3) = 1; given(4) = 1; given(0) = 0; given(1) = 0
            """);
        // 22 by four coins: 10 6 3 3, 10 5 4 3, 10 4 4 4; of 10 and 6 alone none.
        edges.says("3", most, """
            tube(0, 10, 1); tube(1, 6, 1); tube(2, 5, 9); tube(3, 4, 9); tube(4, 3, 9); tube(5, 23, 0); machine(0, 0, 1, 1); coin(0, 5, 1) = 23
            pay(0) = 22; given(0) = 1; given(1) = 1; given(2) = 0; given(3) = 0; given(4) = 2
            """);
        // 19 by three coins: 9 5 5 or 8 8 3; the least value does not count first.
        edges.says("3", most, """
            tube(0, 3, 9); tube(1, 9, 9); tube(2, 5, 9); tube(3, 8, 9); tube(4, 20, 0); machine(0, 0, 1, 1); coin(0, 4, 1) = 20; pay(0) = 19
            given(1) = 1; given(2) = 2; given(0) = 0; given(3) = 0
            """);
        // The same by other tubes: neither the number of a tube nor how many coins it has counts.
        edges.says("3", most, """
            tube(0, 9, 1); tube(1, 8, 1000); tube(2, 5, 2); tube(3, 3, 1000); tube(4, 20, 0); machine(0, 0, 1, 1); coin(0, 4, 1) = 20; pay(0) = 19
            given(0) = 1; given(2) = 2; given(1) = 0; given(3) = 0
            """);
        // Of the next value as many as can be, too: 30 by four coins is 12 9 5 4, 12 8 5 5, 12 8 8 2 or 12 9 7 2.
        edges.says("3", most, """
            tube(0, 12, 1); tube(1, 9, 1); tube(2, 8, 9); tube(3, 7, 1); tube(4, 5, 9); tube(5, 4, 1); tube(6, 2, 9); tube(7, 31, 0)
            machine(0, 0, 1, 1); coin(0, 7, 1) = 31; pay(0) = 30; given(0) = 1; given(1) = 1; given(2) = 0; given(3) = 1; given(4) = 0; given(5) = 0
            given(6) = 1
            """);
        // Twelve tubes, of which the change wants eight, the least value among them.
        edges.says("3", "as few as can be,", """
            tube(0, 4, 1); tube(1, 8, 1); tube(2, 16, 1); tube(3, 32, 1); tube(4, 2, 1); tube(5, 64, 1); tube(6, 128, 1); tube(7, 1, 1)
            tube(8, 600, 0); tube(9, 700, 1); tube(10, 800, 1); tube(11, 900, 1); machine(0, 0, 5, 345); coin(0, 8, 1) = 600; pay(0) = 255
            given(7) = 1; given(4) = 1; given(0) = 1; given(1) = 1; given(2) = 1; given(3) = 1; given(5) = 1; given(6) = 1; given(8) = 0
            coins(7, 1) = 0
            """);
        // 16 by four coins: 7 5 3 1, 7 3 3 3 or 5 5 5 1.
        edges.says("3", most, """
            tube(0, 5, 3); tube(1, 7, 1); tube(2, 3, 3); tube(3, 1, 1); tube(4, 17, 0); machine(0, 0, 1, 1); coin(0, 4, 1) = 17; pay(0) = 16
            given(1) = 1; given(0) = 1; given(2) = 1; given(3) = 1
            """);
    }

    private static void noChange(Edges edges) {
        String sentence = "none, if the amount can't be made, or is above 500.";
        edges.says("3", sentence, """
            tube(0, 500, 0); tube(1, 1, 0); machine(0, 0, 1, 0); machine(1, 0, 1, 1); machine(2, 0, 1, 1); coin(0, 0, 1) = 500; pay(0) = 500
            given(0) = 1; coin(1, 0, 1); coin(1, 1, 2) = 502; pay(1) = -29; credit(1) = 0; told(1, 7) = 0; coin(2, 0, 1); coin(2, 1, 1) = 501
            pay(2) = 500; told(2, 7) = 1
            """);
        edges.says("3", sentence, """
            tube(0, 501, 1); machine(0, 0, 1, 501); coin(0, 0, 2) = 1002; pay(0) = -29; coin(0, 0, 1) = 501; pay(0) = 0; given(0) = 0; told(0, 7) = 1
            """);
        edges.says("3", sentence, """
            tube(0, 2, 9); tube(1, 4, 9); tube(2, 5, 0); machine(0, 0, 1, 2); machine(1, 0, 1, 1); coin(0, 2, 1) = 5; pay(0) = -29; coin(1, 2, 1) = 5
            pay(1) = 4; given(1) = 1
            """);
        edges.says("3", sentence, """
            tube(0, 1, 3); tube(1, 5, 0); machine(0, 0, 1, 1); coin(0, 1, 1); pay(0) = -29; coin(0, 0, 1) = 1; pay(0) = 0; machine(1, 0, 1, 1)
            coin(1, 1, 1) = 5; pay(1) = 4; given(0) = 4; coins(0, 1) = 0
            """);
    }

    private static void tube(Edges edges) {
        edges.says("Promise 13", "A TUBE has coins of a VALUE (1 to 5000), n of them (0 to 1000): 1.", """
            tube(0, 0, 1) = -2; tube(0, 1, 0) = 1; coins(0, 0) = 1; coins(0, 1) = 0; tube(1, 5000, 1000) = 1; coins(1, 0) = 5000; coins(1, 1) = 1000
            tube(2, 5001, 1) = -2; tube(2, 2, -1) = -2; tube(2, 2, 1001) = -2; coins(2, 0) = 0; tube(2, 4999, 999) = 1; count(6) = 9994001
            count(7) = 0
            """);
        edges.says("Promise 13", "UNKNOWN", "tube(-1, 1, 1) = -1; tube(0, 1, 1) = 1; tube(11, 2, 1) = 1; tube(12, 3, 1) = -1; count(6) = 3");
        edges.says("Promise 13", "OUTSIDE", """
            tube(0, 7, 3); tube(0, 0, 1) = -2; tube(0, 5001, 1) = -2; tube(0, 9, -1) = -2; tube(0, 9, 1001) = -2; coins(0, 0) = 7; coins(0, 1) = 3
            count(12) = 0
            """);
        edges.says("Promise 13", "STATE: another one has that VALUE, or there is CREDIT somewhere.", """
            tube(0, 5, 0) = 1; tube(11, 5, 1) = -3; tube(0, 5, 9) = 1; tube(11, 6, 1) = 1; tube(0, 6, 1) = -3; coins(0, 0) = 5; coins(0, 1) = 9
            tube(0, 7, 1) = 1; tube(3, 5, 1) = 1; count(12) = 0
            """);
        edges.says("Promise 13", "STATE: another one has that VALUE, or there is CREDIT somewhere.", """
            tube(0, 1, 0); machine(59, 0, 1, 1); machine(0, 0, 1, 2); coin(59, 0, 1) = 1; tube(1, 2, 1) = -3; tube(0, 1, 5) = -3; coins(0, 1) = 1
            coins(1, 0) = 0; pay(59) = 0; tube(1, 2, 1) = 1; coin(0, 0, 1); tube(1, 3, 1) = -3; refund(0); tube(1, 3, 1) = 1; coin(0, 1, 1) = 3
            tube(2, 7, 1) = -3; pay(0) = 1; tube(2, 7, 1) = 1; remove(0); machine(0, 0, 1, 1); coin(0, 2, 1) = 7; tube(2, 7, 1) = -3; remove(0) = -27
            pay(0) = 6; tube(2, 8, 1) = 1
            """);
        edges.says("Promise 13", "(Its old coins are gone.)", """
            tube(0, 5, 9); tube(1, 2, 1); tube(0, 7, 2) = 1; coins(0, 0) = 7; coins(0, 1) = 2; count(6) = 16; tube(0, 7, 0) = 1; coins(0, 1) = 0
            count(6) = 2; count(8) = 0; count(7) = 0
            """);
    }

    private static void coin(Edges edges) {
        edges.says("Promise 14", "n coins (1 to 50) of a TUBE's VALUE are put in at a PLACE: its CREDIT.", """
            tube(0, 3, 0); tube(1, 10, 0); machine(0, 0, 1, 9); machine(1, 2, 1, 9); coin(0, 0, 0) = -2; coin(0, 0, 1) = 3; coin(0, 0, 50) = 153
            coin(0, 0, 51) = -2; coin(0, 0, -1) = -2; coin(0, 1, 2) = 173; credit(0) = 173; coin(1, 1, 1) = 10; credit(0) = 173; coins(0, 1) = 51
            coins(1, 1) = 3; count(7) = 183; count(6) = 183; count(8) = 0
            """);
        edges.says("Promise 14", "n coins (1 to 50) of a TUBE's VALUE are put in at a PLACE: its CREDIT.", """
            tube(0, 3, 0); machine(0, 0, 1, 0); pay(0); coin(0, 0, 1) = 3; load(0, 1, 0); put(0, 0); program(0, 1); start(0, 0); coin(0, 0, 1) = 6
            breaks(0, 1); minute(1); coin(0, 0, 1) = 9
            """);
        edges.says("Promise 14", "UNKNOWN: PLACE, TUBE", """
            tube(0, 1, 0); tube(11, 2, 0); machine(0, 0, 1, 9); machine(59, 0, 1, 9); coin(-1, 0, 1) = -1; coin(60, 0, 1) = -1; coin(0, -1, 1) = -1
            coin(0, 12, 1) = -1; coin(0, 0, 1) = 1; coin(59, 11, 1) = 2; count(7) = 3
            """);
        edges.says("Promise 14", "OUTSIDE", """
            tube(0, 1, 0); machine(0, 0, 1, 9); coin(0, 0, 0) = -2; coin(0, 0, 51) = -2; coin(1, 0, 51) = -2; coin(0, 1, 0) = -2; credit(0) = 0
            coins(0, 1) = 0; count(7) = 0
            """);
        edges.says("Promise 14", "STATE: the TUBE has no VALUE", """
            machine(0, 0, 1, 9); coin(0, 0, 1) = -3; coin(1, 0, 1) = -3; count(12) = 0; tube(0, 1, 0); coin(0, 0, 1) = 1; coin(0, 11, 50) = -3
            count(7) = 1
            """);
        edges.says("Promise 14", "NO MACHINE", """
            tube(0, 1, 0); coin(0, 0, 1) = -21; status() = 1; machine(0, 0, 1, 9); coin(0, 0, 1) = 1; coin(1, 0, 1) = -21; refund(0); remove(0)
            coin(0, 0, 1) = -21; coins(0, 1) = 0
            """);
        edges.says("Promise 14", "FULL: it would have more than 1000 (behind NO MACHINE).", """
            tube(0, 1, 950); machine(0, 0, 1, 9); coin(0, 0, 50) = 50; coins(0, 1) = 1000; coin(0, 0, 1) = -4; coin(1, 0, 1) = -21
            coin(0, 0, 50) = -4; credit(0) = 50; count(7) = 50; refund(0); coin(0, 0, 49) = 49; coin(0, 0, 2) = -4; coin(0, 0, 1) = 50
            coins(0, 1) = 1000; count(12) = 1
            """);
    }

    private static void pay(Edges edges) {
        String sentence = "The PRICE is paid out of CREDIT: what is above it comes back as CHANGE, and is told.";
        edges.says("Promise 15", sentence, """
            tube(0, 5, 0); tube(1, 1, 9); machine(0, 0, 1, 10); coin(0, 0, 2) = 10; pay(0) = 0; told(0, 7) = 1; credit(0) = 0; coins(0, 1) = 2
            book(0, 8) = 10; count(9) = 10; count(8) = 0; given(0) = 0; machine(1, 0, 1, 9); coin(1, 0, 2); pay(1) = 1; coins(0, 1) = 4
            coins(1, 1) = 8; given(1) = 1; given(0) = 0; book(1, 8) = 9; count(9) = 19; count(8) = 1; count(7) = 20; count(6) = 28
            """);
        edges.says("Promise 15", sentence, """
            machine(0, 0, 1, 0); pay(0) = 0; told(0, 7) = 1; tube(0, 5, 0); machine(1, 0, 1, 0); coin(1, 0, 3); pay(1) = 15; given(0) = 3
            coins(0, 1) = 0; book(1, 8) = 0; count(9) = 0; count(8) = 15; tube(1, 5000, 0); machine(2, 0, 1, 5000); coin(2, 1, 1); pay(2) = 0
            book(2, 8) = 5000
            """);
        edges.says("Promise 15", "UNKNOWN", "machine(0, 0, 1, 0); machine(59, 0, 1, 0); pay(-1) = -1; pay(60) = -1; pay(0) = 0; pay(59) = 0");
        edges.says("Promise 15", "NO MACHINE", """
            pay(0) = -21; status() = 1; machine(0, 0, 1, 0); pay(1) = -21; pay(0) = 0; remove(0); pay(0) = -21; touches(0, 0) = 1
            """);
        edges.says("Promise 15", "STATE (behind that): it was paid for", """
            machine(0, 0, 1, 2); tube(0, 2, 0); tube(1, 3, 0); coin(0, 0, 1); pay(0) = 0; pay(0) = -3; coin(0, 1, 1) = 3; pay(0) = -3; credit(0) = 3
            count(9) = 2; count(12) = 0; book(0, 8) = 2; load(0, 1, 0); put(0, 0); program(0, 1); start(0, 0); pay(0) = -3; stop(0); refund(0)
            coin(0, 0, 1); pay(0) = 0; book(0, 8) = 4; count(9) = 4; breaks(0, 1); minute(1); pay(0) = -3; told(0, 7) = 1
            """);
        edges.says("Promise 15", "MONEY: CREDIT is less", """
            machine(0, 0, 1, 3); pay(0) = -28; status() = 8; tube(0, 1, 0); coin(0, 0, 2); pay(0) = -28; credit(0) = 2; told(0, 7) = 0; count(8) = 0
            coin(0, 0, 1) = 3; pay(0) = 0; count(12) = 2; machine(1, 0, 1, 1); pay(1) = -28; machine(2, 0, 1, 0); pay(2) = 0
            """);
    }

    private static void payWithoutChange(Edges edges) {
        String sentence = "CHANGE: there is none for it: all CREDIT is given back, as those coins (count 8 grows, given() stays).";
        edges.says("Promise 15", sentence, """
            tube(0, 5, 3); tube(1, 2, 4); tube(2, 1, 1); machine(0, 0, 1, 6); machine(1, 0, 1, 1); coin(1, 1, 1) = 2; pay(1) = 1; given(2) = 1
            coins(1, 1) = 5; coin(0, 0, 1); coin(0, 1, 1) = 7; pay(0) = -29; status() = 9; credit(0) = 0; coins(0, 1) = 3; coins(1, 1) = 5
            given(2) = 1; given(0) = 0; given(1) = 0; count(8) = 8; count(7) = 9; told(0, 7) = 0; count(9) = 1; book(0, 8) = 0; pay(0) = -28
            count(12) = 2; coin(0, 1, 3) = 6; pay(0) = 0; given(2) = 0; count(9) = 7
            """);
        edges.says("Promise 15", sentence, """
            tube(0, 600, 2); machine(0, 0, 1, 99); coin(0, 0, 1); pay(0) = -29; count(8) = 600; coins(0, 1) = 2; remove(0); machine(0, 0, 1, 100)
            coin(0, 0, 1); pay(0) = -29; count(8) = 1200
            """);
    }

    private static void refund(Edges edges) {
        edges.says("Promise 16", "CREDIT is given back, as those coins: how much it was.", """
            tube(0, 5, 3); tube(1, 2, 4); tube(2, 10, 9); machine(0, 0, 1, 6); machine(1, 0, 1, 6); refund(0) = 0; coin(0, 0, 2); coin(0, 1, 5) = 20
            coin(1, 1, 1) = 2; refund(0) = 20; refund(0) = 0; coins(0, 1) = 3; coins(1, 1) = 5; coins(2, 1) = 9; credit(1) = 2; credit(0) = 0
            count(8) = 20; count(7) = 22; count(9) = 0; given(0) = 0; refund(1) = 2; count(8) = 22
            """);
        edges.says("Promise 16", "CREDIT is given back, as those coins: how much it was.", """
            tube(0, 600, 0); machine(0, 0, 1, 0); coin(0, 0, 1); pay(0) = -29; coin(0, 0, 1); refund(0) = 600; pay(0) = 0; coin(0, 0, 2)
            refund(0) = 1200; told(0, 7) = 1; touches(0, 0) = 2
            """);
        edges.says("Promise 16", "CREDIT is given back, as those coins: how much it was.", """
            tube(11, 600, 0); machine(0, 0, 1, 0); load(0, 1, 0); put(0, 0); pay(0); program(0, 1); step(0, 0, 1, 5); start(0, 0); coin(0, 11, 2)
            minute(1); refund(0) = 1200; left(0) = 4; told(0, 7) = 1; told(0, 3) = 0; minute(1); used(1) = 4; used(0) = 0; left(0) = 3
            mix(0, 1, true) = 1; breaks(0, 1); coin(0, 11, 1); minute(1); refund(0) = 600; coins(11, 1) = 0; told(0, 4) = 4
            """);
        edges.says("Promise 16", "UNKNOWN", """
            machine(0, 0, 1, 6); machine(59, 0, 1, 6); refund(-1) = -1; refund(0) = 0; refund(59) = 0; refund(60) = -1
            """);
        edges.says("Promise 16", "NO MACHINE.", """
            refund(0) = -21; status() = 1; machine(0, 0, 1, 6); refund(1) = -21; refund(0) = 0; remove(0); refund(0) = -21; count(12) = 3
            """);
    }

    private static void given(Edges edges) {
        edges.says("Promise 17", "Coins that a TUBE gave in the latest pay() that was done.", """
            given(0) = 0; given(11) = 0; tube(0, 1, 9); tube(11, 5, 9); tube(1, 20, 0); machine(0, 0, 1, 3); machine(1, 0, 1, 20); machine(2, 0, 1, 1)
            coin(0, 1, 1); given(11) = 0; pay(0) = 17; given(0) = 2; given(11) = 3; given(1) = 0; pay(0) = -3; pay(2) = -28; given(0) = 2
            coin(2, 1, 30) = 600; pay(2) = -29; given(0) = 2; given(11) = 3; coin(1, 11, 1); refund(1); given(11) = 3; tube(11, 6, 9); given(11) = 3
            minute(1); given(0) = 2; back(1); given(0) = 2; coin(1, 1, 1); pay(1) = 0; given(0) = 0; given(11) = 0
            """);
        edges.says("Promise 17", "Coins that a TUBE gave in the latest pay() that was done.", """
            tube(0, 1, 9); tube(1, 20, 0); machine(0, 0, 1, 18); minute(1); coin(0, 1, 1); pay(0) = 2; back(1); given(0) = 2; coins(0, 1) = 9
            told(0, 7) = 0
            """);
        edges.says("Promise 17", "UNKNOWN.", "given(-1) = -1; given(0) = 0; given(11) = 0; given(12) = -1");
    }

    private static void coinsAndCredit(Edges edges) {
        edges.says("Promise 18", "Of a TUBE: 0 VALUE, 1 coins.", """
            tube(0, 7, 0); tube(11, 8, 1000); coins(0, 0) = 7; coins(0, 1) = 0; coins(11, 0) = 8; coins(11, 1) = 1000; coins(1, 0) = 0
            coins(1, 1) = 0
            """);
        edges.says("Promise 18", "UNKNOWN", "tube(0, 7, 1); tube(11, 8, 1); coins(-1, 0) = -1; coins(0, 0) = 7; coins(11, 0) = 8; coins(12, 0) = -1");
        edges.says("Promise 18", "OUTSIDE.", """
            tube(0, 7, 5); coins(0, -1) = -2; coins(0, 0) = 7; coins(0, 1) = 5; coins(0, 2) = -2; coins(1, 2) = -2
            """);
        edges.says("Promise 19", "CREDIT of a PLACE (0 without a MACHINE).", """
            credit(0) = 0; credit(59) = 0; count(12) = 0; tube(0, 7, 5); machine(59, 0, 1, 7); credit(59) = 0; coin(59, 0, 1); credit(59) = 7
            credit(0) = 0; pay(59); credit(59) = 0; remove(59); credit(59) = 0
            """);
        edges.says("Promise 19", "UNKNOWN.", "credit(-1) = -1; credit(0) = 0; credit(59) = 0; credit(60) = -1");
    }
}
