import java.lang.reflect.InvocationTargetException;
import java.lang.reflect.Method;

/** Counts answers that are not the ones that are due, and ends a test with what it counted. */
final class Check {
    /** What later calls on one object answer is free. */
    private static final int MOST_CALLS = 512;

    private int answers = 0;
    private int wrong = 0;
    private WashHouse counted = null;
    private int calls = 0;

    void due(String call, long got, long want) {
        answers++;
        if (got != want) {
            wrong++;
            System.out.println(call + " answered " + got + ", due is " + want);
        }
    }

    void end() {
        System.out.println(answers + " answers, " + wrong + " not as due");
        if (wrong > 0 || answers == 0) {
            System.exit(1);
        }
    }

    /**
     * Calls on a new object, split by line ends and semicolons: "told(0, 4) = 1", or without an
     * answer where it is enough that the call is not refused.
     */
    WashHouse run(String promise, String script) {
        WashHouse house = new WashHouse();
        go(promise, house, script);
        return house;
    }

    void go(String promise, WashHouse house, String script) {
        int number = 0;
        for (String call : script.split("[;\n]")) {
            String plain = call.replaceAll("\\s", "");
            if (plain.isEmpty()) {
                continue;
            }
            number++;
            String[] sides = plain.split("=");
            long got = ask(house, sides[0]);
            String what = promise + ", call " + number + ": " + sides[0];
            if (sides.length == 2) {
                due(what, got, Long.parseLong(sides[1]));
            } else if (got < 0 && !sides[0].equals("digest()")) {
                due(what + ", which should be done,", got, 1);
            }
        }
    }

    /** One call, written as in the document: "told(0, 4)". */
    long ask(WashHouse house, String call) {
        calls = house == counted ? calls + 1 : 1;
        counted = house;
        if (calls == MOST_CALLS + 1) {
            due("how often one object is called, up to " + call, calls, MOST_CALLS);
        }
        return answer(house, call.replaceAll("\\s", ""));
    }

    private static long answer(WashHouse house, String call) {
        String name = call.substring(0, call.indexOf('('));
        String inside = call.substring(call.indexOf('(') + 1, call.length() - 1);
        String[] texts = inside.isEmpty() ? new String[0] : inside.split(",");
        for (Method method : WashHouse.class.getMethods()) {
            if (method.getName().equals(name) && method.getParameterCount() == texts.length) {
                return invoke(house, method, texts);
            }
        }
        throw new IllegalArgumentException("no such call: " + call);
    }

    private static long invoke(WashHouse house, Method method, String[] texts) {
        Object[] values = new Object[texts.length];
        for (int i = 0; i < texts.length; i++) {
            boolean isBoolean = method.getParameterTypes()[i] == boolean.class;
            values[i] = isBoolean ? (Object) Boolean.valueOf(texts[i]) : (Object) Integer.valueOf(texts[i]);
        }
        try {
            return ((Number) method.invoke(house, values)).longValue();
        } catch (IllegalAccessException | InvocationTargetException e) {
            throw new IllegalStateException(method.getName() + " threw", e);
        }
    }
}
