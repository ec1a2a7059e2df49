import java.util.ArrayList;
import java.util.List;

/** What is refused, or found, changes nothing: a house where it was tried goes on as one where it was not. */
final class EdgesOfRefusals {
    private static final int PLACES = 11, LOADS = 17;

    /**
     * Place 0 runs, 1 is broken, 2 has credit and a load, 3 will break, 4 is a bank without drums, 5 one of six with a load that
     * was paid for, 6 has no machine, 7 is a bank of six drums, 8 has too little credit, 9 eight loads, 10 credit without change.
     * Load 3 and 7 wait, 4 was fetched, 5 is too heavy. Program 4 is none. Time is 2.
     */
    private static final String SCENE = """
        bound(59, 50, 40); tube(0, 1, 10); tube(1, 5, 1000); tube(2, 50, 0); tube(11, 4999, 0); program(0, 2); step(0, 0, 0, 3); step(0, 1, 1, 2)
        program(1, 1); step(1, 0, 2, 1); program(2, 0); program(3, 1); machine(0, 0, 1000, 7); machine(1, 1, 1000, 0); machine(2, 2, 1000, 30)
        machine(3, 3, 100, 0); machine(4, 4, 0, 0); machine(5, 4, 100, 0); drum(5, 100); drum(5, 100); drum(5, 100); drum(5, 100); drum(5, 100)
        machine(7, 4, 1, 0); drum(7, 1); drum(7, 1); drum(7, 1); drum(7, 1); drum(7, 1); machine(8, 0, 10, 3); machine(9, 0, 100, 0)
        machine(10, 2, 10, 8); load(0, 50, 0); load(1, 60, 0); load(2, 70, 0); load(3, 80, 1); load(4, 90, 2); load(5, 1001, 0); load(6, 20, 0)
        load(7, 10, 1); load(0, 1, 0); load(0, 1, 0); load(0, 1, 0); load(0, 1, 0); load(0, 1, 0); load(0, 1, 0); load(0, 1, 0); load(0, 1, 0)
        load(0, 1, 2); put(0, 0); put(1, 1); put(2, 2); put(3, 4); fetch(4); put(5, 6); mix(0, 1, false); put(9, 8); put(9, 9); put(9, 10); put(9, 11)
        put(9, 12); put(9, 13); put(9, 14); put(9, 15); breaks(1, 1); minute(1); coin(0, 0, 7); pay(0); start(0, 0); minute(1); coin(2, 2, 1)
        coin(8, 0, 1); breaks(3, 4); pay(5); coin(10, 11, 1)
        """;

    private static final String REFUSED = """
        machine(60, 0, 1, 0) = -1; machine(6, 5, 1, 0) = -2; machine(6, 0, 0, 0) = -2; machine(6, 4, -1, 0) = -2; machine(6, 0, 1, 5001) = -2
        machine(0, 0, 1, 0) = -3; machine(4, 4, 5, 0) = -3; drum(60, 1) = -1; drum(4, 0) = -2; drum(4, 20001) = -2; drum(6, 1) = -21; drum(0, 1) = -25
        drum(3, 1) = -25; drum(5, 1) = -27; drum(7, 1) = -4; remove(60) = -1; remove(6) = -21; remove(0) = -27; remove(2) = -27; remove(5) = -27
        remove(8) = -27; told(6, 0) = -21; told(0, 13) = -2; wish(6, 0, 0) = -21; wish(3, 3, 0) = -25; wish(3, 4, 1) = -25; wish(0, 5, 0) = -2
        touches(60, 0) = -1; program(40, 1) = -1; program(0, 31) = -2; program(4, 31) = -2; program(0, -1) = -33; program(4, -1) = -33
        takeOut(40) = -1; takeOut(4) = 0; step(40, 0, 0, 1) = -1; step(0, 0, 5, 1) = -2; step(0, 0, 0, 0) = -2; step(0, 0, 0, 201) = -2
        step(4, 0, 0, 1) = -23; step(0, 2, 3, 9) = -24; step(0, -1, 3, 9) = -24; minutes(40) = -1; minutes(4) = -23; tube(12, 2, 1) = -1
        tube(3, 0, 1) = -2; tube(3, 5001, 1) = -2; tube(3, 2, 1001) = -2; tube(3, 5, 1) = -3; tube(3, 2, 1) = -3; tube(0, 1, 5) = -3
        coin(60, 0, 1) = -1; coin(2, 12, 1) = -1; coin(2, 0, 0) = -2; coin(2, 0, 51) = -2; coin(2, 3, 1) = -3; coin(6, 0, 1) = -21; coin(2, 1, 1) = -4
        pay(60) = -1; pay(6) = -21; pay(0) = -3; pay(5) = -3; pay(8) = -28; refund(60) = -1; refund(6) = -21; refund(9) = 0; given(12) = -1
        coins(12, 0) = -1; load(10, 1, 0) = -2; load(0, 0, 0) = -2; load(0, 20001, 0) = -2; load(0, 1, 10) = -2; mix(0, 0, false) = -2
        mix(0, 10, false) = -2; mix(-1, 1, true) = -2; put(60, 7) = -1; put(2, 99) = -1; put(6, 7) = -21; put(2, 4) = -22; put(2, 0) = -22
        put(0, 7) = -27; put(1, 7) = -27; put(4, 7) = -26; put(2, 5) = -31; put(2, 7) = -30; put(9, 16) = -4; fetch(99) = -1; fetch(4) = -22
        fetch(7) = -22; fetch(0) = -27; about(99, 0) = -1; about(0, 5) = -2; share(99, 0) = -1; share(7, 0) = -22; share(2, 0) = -25
        share(6, 6) = -24; share(6, -1) = -24; start(60, 0) = -1; start(0, 40) = -1; start(6, 0) = -21; start(0, 0) = -27; start(1, 0) = -27
        start(5, 4) = -23; start(3, 3) = -22; start(2, 1) = -28; start(5, 1) = -25; start(5, 0) = -32; minute(0) = -2; minute(61) = -2; left(60) = -1
        left(6) = -21; stop(60) = -1; stop(6) = -21; stop(1) = -3; stop(3) = -3; stop(5) = -3; breaks(60, 1) = -1; breaks(3, -1) = -2
        breaks(3, 1001) = -2; breaks(6, 1) = -21; mend(60) = -1; mend(6) = -21; mend(0) = 0; mend(3) = 0; bound(-1, 0, 0) = -2; bound(1, 1, 1) = -3
        used(6) = -2; book(6, 0) = -21; book(0, 9) = -2; cost(60, 1) = -1; cost(0, 1000001) = -2; count(13) = -2; back(0) = -2; back(301) = -2
        back(3) = -3; trace(30) = -5
        """;

    static void hold(Edges edges) {
        edges.quote("Terms", "What is refused, or found, changes nothing (but as told, and status(), TOUCHES, THE TRACE).");
        Check check = edges.check();
        List<Long> plain = answers(check, check.run("the scene", SCENE));
        for (String row : REFUSED.split("[;\n]")) {
            String call = row.strip();
            if (!call.isEmpty()) {
                changesNothing(check, call, plain);
            }
        }
        butAsTold(edges);
    }

    private static void changesNothing(Check check, String call, List<Long> plain) {
        WashHouse house = check.run("the scene", SCENE);
        int status = house.status();
        int findings = house.count(12);
        check.go("ahead of a look round", house, call);
        int answer = Integer.parseInt(call.replaceAll(".*=\\s*", ""));
        boolean isFinding = answer <= -21;
        check.due("status() behind " + call, house.status(), isFinding ? -20 - answer : status);
        check.due("count(12) behind " + call, house.count(12), findings + (isFinding ? 1 : 0));
        List<Long> answers = answers(check, house);
        for (int i = 0; i < answers.size(); i++) {
            check.due("behind " + call + " answer " + i + " of a look round", answers.get(i), plain.get(i));
        }
    }

    private static void butAsTold(Edges edges) {
        WashHouse house = edges.check().run("the scene", SCENE);
        edges.check().go("a finding changes what it is told to", house, """
            credit(10) = 4999; count(8) = 0; pay(10) = -29; credit(10) = 0; coins(11, 1) = 0; count(8) = 4999; told(10, 7) = 0; book(10, 8) = 0
            count(9) = 7
            """);
    }

    /** All that can be asked, then what six minutes make of it, and what back() finds. */
    private static List<Long> answers(Check check, WashHouse house) {
        List<Long> answers = new ArrayList<>();
        for (String call : questions()) {
            answers.add(check.ask(house, call));
        }
        return answers;
    }

    private static List<String> questions() {
        List<String> calls = new ArrayList<>(List.of("digest()"));
        ask(calls, "count(#)", 12);
        ask(calls, "used(#)", 6);
        ask(calls, "credit(#)", PLACES);
        ask(calls, "minutes(#)", 5);
        ask(calls, "coins(#, 0)", 4);
        ask(calls, "coins(#, 1)", 4);
        ask(calls, "given(#)", 4);
        for (int place = 0; place < PLACES; place++) {
            ask(calls, "told(" + place + ", #)", 10);
        }
        ask(calls, "book(0, #)", 9);
        ask(calls, "book(#, 6)", PLACES);
        ask(calls, "book(#, 8)", PLACES);
        ask(calls, "about(#, 2)", LOADS);
        ask(calls, "about(#, 4)", LOADS);
        ask(calls, "share(6, #)", 6);
        calls.addAll(List.of("minute(2)", "digest()", "minute(2)", "digest()", "minute(1)", "digest()", "used(1)", "book(0, 5)"));
        ask(calls, "told(#, 4)", PLACES);
        calls.addAll(List.of("mix(0, 1, true)", "mix(0, 2, true)", "load(0, 1, 0)", "count(4)", "back(6)", "digest()", "back(1)", "digest()", "count(11)"));
        return calls;
    }

    private static void ask(List<String> calls, String call, int n) {
        for (int i = 0; i < n; i++) {
            calls.add(call.replace("#", String.valueOf(i)));
        }
    }
}
