import java.io.IOException;
import java.lang.reflect.Method;
import java.lang.reflect.Modifier;
import java.nio.file.DirectoryStream;
import java.nio.file.Files;
import java.nio.file.Path;
import java.util.regex.Matcher;
import java.util.regex.Pattern;

/** README.md says what is so: its example answers as told there, and it names every call and test. */
public final class ReadmeTest {
    private static final Pattern CALL = Pattern.compile("house\\.(\\w+\\([^()]*\\)); +// (-?\\d+): .+");
    private static final String NEW_HOUSE = "WashHouse house = new WashHouse();";
    private static final Check CHECK = new Check();

    public static void main(String[] args) throws IOException {
        String text = Files.readString(Path.of("README.md"));
        yes("an example", examples(text) > 0);
        callsAreNamed(text);
        testsAreNamed(text);
        yes("it says how to run the tests", text.contains("```sh\n.ci/run\n```") && Files.isExecutable(Path.of(".ci/run")));
        CHECK.end();
    }

    private static void yes(String what, boolean holds) {
        CHECK.due("README.md, " + what, holds ? 1 : 0, 1);
    }

    private static int examples(String text) {
        int n = 0;
        Matcher block = Pattern.compile("(?s)```java\n(.*?)```").matcher(text);
        while (block.find()) {
            example(block.group(1));
            n++;
        }
        return n;
    }

    private static void example(String block) {
        WashHouse house = new WashHouse();
        for (String row : block.split("\n")) {
            Matcher call = CALL.matcher(row);
            if (call.matches()) {
                CHECK.due("README.md, " + call.group(1), CHECK.ask(house, call.group(1)), Long.parseLong(call.group(2)));
            } else {
                yes("a row without a call and its answer: " + row, row.equals(NEW_HOUSE) && block.startsWith(row));
            }
        }
    }

    private static void callsAreNamed(String text) {
        for (Method method : WashHouse.class.getDeclaredMethods()) {
            boolean isCall = Modifier.isPublic(method.getModifiers());
            yes("the call " + method.getName(), !isCall || text.contains("`" + method.getName() + "`"));
        }
    }

    private static void testsAreNamed(String text) throws IOException {
        try (DirectoryStream<Path> tests = Files.newDirectoryStream(Path.of("src/test/java"), "*Test.java")) {
            for (Path test : tests) {
                String name = test.getFileName().toString().replace(".java", "");
                yes("the test " + name, text.contains("`" + name + "`"));
            }
        }
        Matcher named = Pattern.compile("`(\\w+Test)`").matcher(text);
        while (named.find()) {
            yes("there is a " + named.group(1), Files.exists(Path.of("src/test/java", named.group(1) + ".java")));
        }
    }
}
