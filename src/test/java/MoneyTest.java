/** Promises 13 to 19: money. */
public final class MoneyTest {
    private static final Check CHECK = new Check();

    public static void main(String[] args) {
        tube();
        leastCredit();
        coin();
        pay();
        change();
        changeAndCreditOfOthers();
        changeOfAllTubes();
        changeBounds();
        refund();
        given();
        coins();
        credit();
        CHECK.end();
    }

    private static void tube() {
        CHECK.run("13 tube", """
            tube(-1, 1, 1) = -1; tube(12, 0, 1) = -1; tube(0, 0, 1) = -2; tube(0, 5001, 1) = -2; tube(0, 1, -1) = -2; tube(0, 1, 1001) = -2
            tube(0, 5000, 1000) = 1; coins(0, 0) = 5000; coins(0, 1) = 1000; tube(11, 1, 0) = 1; coins(11, 1) = 0
            tube(1, 5000, 0) = -3; tube(1, 1, 0) = -3; tube(1, 1, 1001) = -2; tube(0, 5000, 3) = 1; coins(0, 1) = 3
            tube(0, 7, 2) = 1; coins(0, 0) = 7; coins(0, 1) = 2; tube(1, 5000, 1) = 1; count(6) = 5014; count(12) = 0
            machine(0, 0, 5, 5); coin(0, 0, 1) = 7; tube(2, 2, 2) = -3; tube(0, 7, 2) = -3; pay(0) = -29; tube(2, 2, 2) = 1
            coin(0, 0, 1); tube(3, 3, 3) = -3; refund(0) = 7; tube(3, 3, 3) = 1; coin(0, 0, 1) = 7; pay(0) = 2; tube(3, 4, 3) = 1
            count(7) = 21; count(8) = 16; count(9) = 5
            """);
    }

    private static void leastCredit() {
        CHECK.run("13 a single coin is credit too", """
            tube(0, 1, 0); machine(59, 0, 5, 5); coin(59, 0, 1) = 1; tube(1, 2, 0) = -3; remove(59) = -27; refund(59) = 1; tube(1, 2, 0) = 1
            """);
    }

    private static void coin() {
        CHECK.run("14 coin", """
            coin(-1, 0, 1) = -1; coin(60, 0, 1) = -1; coin(0, -1, 1) = -1; coin(0, 12, 0) = -1
            coin(0, 0, 0) = -2; coin(0, 0, 51) = -2; coin(0, 0, 1) = -3; tube(0, 3, 900); coin(0, 0, 1) = -21; coin(0, 1, 1) = -3
            machine(0, 0, 5, 5); coin(0, 0, 50) = 150; coin(0, 0, 49) = 297; coin(0, 0, 2) = -4; coin(0, 0, 1) = 300; coin(0, 0, 1) = -4
            coin(1, 0, 1) = -21; coins(0, 1) = 1000; credit(0) = 300; count(7) = 300; tube(1, 5, 1) = -3
            machine(1, 2, 5, 5); coin(1, 0, 1) = -4; refund(0) = 300; coin(1, 0, 1) = 3; coins(0, 1) = 901; count(7) = 303
            """);
    }

    private static void pay() {
        CHECK.run("15 pay", """
            pay(-1) = -1; pay(60) = -1; pay(0) = -21; machine(0, 0, 5, 10); pay(0) = -28; status() = 8; told(0, 7) = 0
            tube(0, 4, 0); tube(1, 1, 5); coin(0, 0, 2) = 8; pay(0) = -28; credit(0) = 8; coin(0, 0, 1) = 12; pay(0) = 2
            told(0, 7) = 1; credit(0) = 0; coins(0, 1) = 3; coins(1, 1) = 3; given(0) = 0; given(1) = 2; book(0, 8) = 10
            count(7) = 12; count(8) = 2; count(9) = 10; count(6) = 15; pay(0) = -3; coin(0, 0, 5) = 20; pay(0) = -3; credit(0) = 20
            """);
        CHECK.run("15 nothing to pay", """
            machine(0, 0, 5, 0); pay(0) = 0; told(0, 7) = 1; pay(0) = -3; book(0, 8) = 0; count(9) = 0
            tube(0, 7, 0); machine(1, 0, 5, 0); coin(1, 0, 2) = 14; pay(1) = 14; coins(0, 1) = 0; given(0) = 2; told(1, 7) = 1
            """);
        CHECK.run("15 no change: all credit is given back", """
            machine(0, 0, 5, 5); machine(1, 0, 5, 5); tube(0, 1, 2); tube(1, 3, 0); coin(0, 1, 2) = 6; pay(0) = 1; given(0) = 1
            coin(1, 1, 3) = 9; pay(1) = 4; given(0) = 1; given(1) = 1; coins(0, 1) = 0; coins(1, 1) = 4
            minute(1); remove(0) = 0; machine(0, 0, 5, 4); coin(0, 1, 2) = 6; pay(0) = -29; status() = 9; credit(0) = 0; coins(1, 1) = 4
            given(0) = 1; given(1) = 1; told(0, 7) = 0; count(8) = 11; count(7) = 21; count(9) = 10; book(0, 8) = 0; count(12) = 1
            """);
    }

    private static void change() {
        CHECK.run("15 the fewest coins", """
            machine(0, 0, 5, 1); tube(0, 1, 9); tube(1, 3, 9); tube(2, 4, 9); tube(3, 7, 0)
            coin(0, 3, 1) = 7; pay(0) = 6; given(0) = 0; given(1) = 2; given(2) = 0; given(3) = 0
            """);
        CHECK.run("15 of several ways the most of the greatest", """
            machine(0, 0, 5, 1); tube(0, 3, 9); tube(1, 5, 9); tube(2, 4, 9); tube(3, 9, 0); tube(4, 1, 0)
            coin(0, 3, 1) = 9; pay(0) = 8; given(0) = 1; given(1) = 1; given(2) = 0
            """);
        CHECK.run("15 of these the most of the next", """
            machine(0, 0, 5, 1); tube(0, 5, 9); tube(1, 4, 9); tube(2, 10, 1); tube(3, 6, 9); tube(4, 3, 9); tube(5, 20, 0)
            coin(0, 5, 1) = 20; pay(0) = 19; given(2) = 1; given(3) = 1; given(4) = 1; given(0) = 0; given(1) = 0; given(5) = 0
            """);
        CHECK.run("15 as many as there are", """
            machine(0, 0, 5, 1); tube(0, 1, 4); tube(1, 5, 1); tube(2, 10, 1); tube(3, 20, 0); coin(0, 3, 1) = 20
            pay(0) = 19; given(2) = 1; given(1) = 1; given(0) = 4; coins(0, 1) = 0; coins(3, 1) = 1
            """);
        CHECK.run("15 the own coins too", """
            machine(0, 0, 5, 10); tube(0, 5, 0); coin(0, 0, 3) = 15; pay(0) = 5; given(0) = 1; coins(0, 1) = 2
            """);
    }

    private static void changeAndCreditOfOthers() {
        CHECK.run("15 not the credit of others", """
            machine(0, 0, 5, 1); machine(1, 0, 5, 1); machine(59, 0, 5, 1); tube(0, 1, 1); tube(1, 4, 0)
            coin(59, 0, 2) = 2; coins(0, 1) = 3; coin(0, 1, 1) = 4; pay(0) = -29; credit(59) = 2; coins(0, 1) = 3
            coin(0, 0, 2) = 2; pay(0) = 1; coins(0, 1) = 4; pay(59) = 1; coins(0, 1) = 3; coin(1, 1, 1); pay(1) = 3; coins(0, 1) = 0
            """);
    }

    private static void changeOfAllTubes() {
        CHECK.run("15 not the credit of place 0", """
            machine(0, 0, 5, 1); machine(1, 0, 5, 1); tube(0, 1, 0); tube(1, 2, 0); coin(0, 0, 1) = 1; coin(1, 1, 1) = 2; pay(1) = -29; pay(0) = 0
            coin(1, 1, 1) = 2; pay(1) = 1; coins(0, 1) = 0
            """);
        CHECK.run("15 twelve tubes, the least one too", """
            tube(0, 4, 1); tube(1, 8, 1); tube(2, 16, 1); tube(3, 32, 1); tube(4, 2, 1); tube(5, 64, 1); tube(6, 128, 1); tube(7, 1, 1); tube(8, 600, 0)
            tube(9, 700, 1); tube(10, 800, 1); tube(11, 900, 1); machine(0, 0, 5, 345); coin(0, 8, 1) = 600; pay(0) = 255
            given(7) = 1; given(4) = 1; given(0) = 1; given(1) = 1; given(2) = 1; given(3) = 1; given(5) = 1; given(6) = 1; given(8) = 0; given(9) = 0
            coins(7, 1) = 0; coins(6, 1) = 0; coins(8, 1) = 1
            """);
    }

    private static void changeBounds() {
        CHECK.run("15 change up to 500", """
            machine(0, 0, 5, 0); machine(1, 0, 5, 0); tube(0, 500, 0); tube(1, 1, 1); coin(0, 0, 1) = 500; pay(0) = 500; given(0) = 1
            coin(1, 0, 1); coin(1, 1, 1) = 501; pay(1) = -29; credit(1) = 0; coins(0, 1) = 0; coins(1, 1) = 1; given(0) = 1; given(1) = 0
            count(8) = 1001
            """);
        CHECK.run("15 many ways", """
            tube(0, 1, 1000); tube(1, 2, 1000); tube(2, 5, 1000); tube(3, 10, 1000); tube(4, 20, 1000); tube(5, 50, 1000)
            tube(6, 100, 1000); tube(7, 200, 1000); tube(8, 3, 1000); tube(9, 7, 1000); tube(10, 11, 1000); tube(11, 1000, 0)
            machine(0, 0, 5, 501); coin(0, 11, 1) = 1000; pay(0) = 499; given(7) = 2; given(6) = 0; given(5) = 1; given(4) = 2
            given(3) = 0; given(9) = 1; given(1) = 1; given(0) = 0; given(2) = 0; given(8) = 0; given(10) = 0
            """);
    }

    private static void refund() {
        CHECK.run("16 refund", """
            refund(-1) = -1; refund(60) = -1; refund(0) = -21; machine(0, 0, 5, 5); refund(0) = 0
            tube(0, 2, 1); tube(1, 5, 1); coin(0, 0, 3); coin(0, 1, 2) = 16; refund(0) = 16; refund(0) = 0; credit(0) = 0
            coins(0, 1) = 1; coins(1, 1) = 1; count(8) = 16; count(7) = 16; count(9) = 0; given(0) = 0
            coin(0, 1, 1); pay(0) = 0; coin(0, 0, 1) = 2; refund(0) = 2; told(0, 7) = 1; coins(1, 1) = 2; touches(0, 0) = 1
            """);
    }

    private static void given() {
        CHECK.run("17 given", """
            given(-1) = -1; given(12) = -1; given(0) = 0; given(11) = 0; machine(0, 0, 5, 1); machine(1, 0, 5, 1); tube(0, 1, 4); tube(1, 3, 0)
            coin(0, 1, 1) = 3; pay(0) = 2; given(0) = 2; given(1) = 0; pay(0) = -3; given(0) = 2; pay(1) = -28; given(0) = 2
            minute(1); back(1) = 0; given(0) = 2; coin(1, 0, 1) = 1; pay(1) = 0; given(0) = 0; given(1) = 0
            """);
    }

    private static void coins() {
        CHECK.run("18 coins", """
            coins(-1, 0) = -1; coins(12, 2) = -1; coins(0, -1) = -2; coins(0, 2) = -2; coins(0, 0) = 0; coins(0, 1) = 0
            tube(11, 9, 8); coins(11, 0) = 9; coins(11, 1) = 8; count(6) = 72
            """);
    }

    private static void credit() {
        CHECK.run("19 credit", """
            credit(-1) = -1; credit(60) = -1; credit(0) = 0; tube(0, 2, 0); tube(1, 3, 0); machine(0, 0, 5, 9); credit(0) = 0
            coin(0, 0, 2); credit(0) = 4; coin(0, 1, 2) = 10; credit(0) = 10; credit(1) = 0; pay(0) = -29; credit(0) = 0; count(12) = 1
            """);
    }
}
