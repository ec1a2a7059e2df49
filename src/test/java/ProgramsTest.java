/** Promises 9 to 12: programs. */
public final class ProgramsTest {
    private static final Check CHECK = new Check();

    public static void main(String[] args) {
        program();
        shorterPrograms();
        takeOut();
        step();
        minutes();
        CHECK.end();
    }

    private static void program() {
        CHECK.run("9 program", """
            program(-1, 1) = -1; program(40, -1) = -1; program(0, 31) = -2; program(0, 2147483647) = -2
            program(0, -1) = -33; status() = 13; program(0, -2147483648) = -33; count(12) = 2; count(2) = 0
            program(0, 0) = 1; minutes(0) = 0; program(39, 30) = 1; minutes(39) = 30; count(2) = 2
            step(39, 29, 0, 200) = 1; minutes(39) = 229; program(39, -1) = -33; program(39, 31) = -2; minutes(39) = 229
            program(39, 30) = 1; minutes(39) = 30; program(39, 2) = 1; minutes(39) = 2
            """);
        CHECK.run("9 neighbours stay", """
            program(1, 2); step(1, 0, 0, 9); program(0, 30) = 1; program(2, 30) = 1; step(0, 29, 0, 50); minutes(1) = 10; minutes(0) = 79; count(2) = 3
            """);
        CHECK.run("9 each step is a rest", """
            machine(0, 3, 5, 0); load(0, 1, 0); put(0, 0); pay(0); program(0, 2) = 1; start(0, 0) = 1
            minute(1); used(0) = 0; used(1) = 0; used(2) = 1; left(0) = 1; minute(1); told(0, 3) = 1; book(0, 7) = 0
            """);
    }

    private static void takeOut() {
        CHECK.run("10 takeOut", """
            takeOut(-1) = -1; takeOut(40) = -1; takeOut(0) = 0; takeOut(39) = 0
            program(0, 3); takeOut(0) = 1; takeOut(0) = 0; minutes(0) = -23; step(0, 0, 0, 1) = -23; count(2) = 0
            program(1, 0); takeOut(1) = 1; takeOut(1) = 0; count(12) = 2
            """);
        CHECK.run("10 a run keeps a program that is taken out", """
            machine(0, 0, 5, 0); load(0, 1, 0); put(0, 0); pay(0); program(0, 2); step(0, 0, 0, 2); start(0, 0) = 1
            takeOut(0) = 1; left(0) = 3; minute(1); told(0, 5) = 10; program(0, 5); step(0, 1, 3, 9); left(0) = 2
            minute(1); told(0, 5) = 20; minute(1); left(0) = 0; book(0, 0) = 3
            """);
    }

    private static void shorterPrograms() {
        CHECK.run("9 a shorter run behind a longer one", """
            machine(0, 0, 5, 0); load(0, 1, 0); put(0, 0); pay(0); program(0, 4); step(0, 1, 1, 50); start(0, 0) = 1; minute(2); stop(0) = 51
            pay(0); program(0, 1); step(0, 0, 0, 2); start(0, 0) = 1; left(0) = 2; minute(1); told(0, 5) = 10; left(0) = 1; minute(1)
            left(0) = 0; told(0, 3) = 1; count(5) = 0
            """);
    }

    private static void step() {
        CHECK.run("11 step", """
            step(-1, 0, 0, 1) = -1; step(40, 0, 9, 1) = -1; step(0, 0, -1, 1) = -2; step(0, 0, 5, 1) = -2
            step(0, 0, 0, 0) = -2; step(0, 0, 0, 201) = -2; step(0, 0, 0, 1) = -23; step(0, -1, 0, 1) = -23
            program(0, 2); step(0, 2, 0, 1) = -24; step(0, -1, 0, 1) = -24; step(0, 2147483647, 0, 1) = -24; step(0, 2, 5, 1) = -2
            minutes(0) = 2; step(0, 0, 0, 1) = 1; step(0, 1, 4, 200) = 1; minutes(0) = 201; step(0, 1, 3, 7) = 1; minutes(0) = 8
            program(1, 0); step(1, 0, 0, 1) = -24; minutes(1) = 0; status() = 4
            """);
        CHECK.run("11 a run goes by the steps as they were at its start", """
            machine(0, 0, 5, 0); load(0, 1, 0); put(0, 0); pay(0); program(0, 2); step(0, 0, 0, 2); step(0, 1, 1, 3)
            start(0, 0) = 1; step(0, 0, 3, 200); left(0) = 5; minute(2); told(0, 5) = 20; minute(1); used(1) = 4; left(0) = 2
            """);
    }

    private static void minutes() {
        CHECK.run("12 minutes", """
            minutes(-1) = -1; minutes(40) = -1; minutes(0) = -23; status() = 3; program(0, 30); minutes(0) = 30
            step(0, 0, 1, 200); step(0, 29, 2, 100); minutes(0) = 328; program(0, 0); minutes(0) = 0; takeOut(0); minutes(0) = -23
            """);
    }
}
