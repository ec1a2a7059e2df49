import java.io.IOException;
import java.lang.reflect.Field;
import java.lang.reflect.Method;
import java.lang.reflect.Modifier;
import java.nio.file.Files;
import java.nio.file.Path;
import java.util.List;
import java.util.Set;
import java.util.TreeSet;
import java.util.regex.Matcher;
import java.util.regex.Pattern;

/** The rules of ../shared/LANGUAGE.md that can be seen from outside, by their numbers. */
public final class LanguageTest {
    private static final Check CHECK = new Check();

    public static void main(String[] args) throws IOException {
        privateNames();
        classes();
        source(Files.readString(Path.of("src/main/java/WashHouse.java")));
        CHECK.end();
    }

    private static void yes(String rule, boolean holds) {
        CHECK.due("rule " + rule, holds ? 1 : 0, 1);
    }

    private static void privateNames() {
        Set<String> publicNames = new TreeSet<>();
        for (Method method : WashHouse.class.getMethods()) {
            publicNames.add(method.getName());
        }
        for (Method method : WashHouse.class.getDeclaredMethods()) {
            boolean isPrivate = Modifier.isPrivate(method.getModifiers());
            yes("1: private " + method.getName(), !isPrivate || !publicNames.contains(method.getName()));
        }
    }

    private static void classes() {
        Class<?>[] inside = WashHouse.class.getDeclaredClasses();
        yes("11: classes", inside.length < 12);
        for (Class<?> type : inside) {
            yes("1: " + type, Modifier.isStatic(type.getModifiers()) && !Modifier.isPublic(type.getModifiers()));
            fields(type);
        }
        fields(WashHouse.class);
    }

    private static void fields(Class<?> type) {
        int own = 0;
        for (Field field : type.getDeclaredFields()) {
            boolean isStatic = Modifier.isStatic(field.getModifiers());
            own += isStatic ? 0 : 1;
            yes("5: " + field, !isStatic || Modifier.isFinal(field.getModifiers()));
        }
        yes("11: fields of " + type, own <= 20);
        for (Method method : type.getDeclaredMethods()) {
            yes("11: " + method, method.getParameterCount() <= 7);
        }
    }

    private static void source(String text) {
        String code = text.replaceAll("(?s)/\\*.*?\\*/", "").replaceAll("//.*", "");
        yes("3: characters", text.chars().allMatch(c -> c < 256));
        for (String word : List.of("throw", "throws", "try", "catch", "finally", "synchronized", "assert", "package",
                "protected", "volatile", "native", "Object", "System\\.(?!arraycopy)\\w+", "Thread", "Random",
                "hashCode", "getClass", "\\w+Exact", "Math\\.(random|sqrt|cbrt|pow|exp|log|sin|cos|tan|floor|ceil|rint)",
                "Arrays\\.(?!copyOf\\b|copyOfRange\\b|fill\\b)\\w+")) {
            yes("4, 6, 13: " + word, !Pattern.compile("\\b" + word + "\\b").matcher(code).find());
        }
        yes("2: method references", !code.contains("::"));
        yes("2: a class without a name", !Pattern.compile("\\bnew \\w+\\([^)]*\\) *\\{").matcher(code).find());
        yes("10: texts", !code.contains("\""));
        for (String line : code.split("\n")) {
            yes("2: a lambda, " + line.strip(), !line.contains("->") || line.strip().matches("(case .*|default) ->.*"));
        }
        Matcher imports = Pattern.compile("import ([^;]+);").matcher(code);
        while (imports.find()) {
            yes("4: " + imports.group(1), imports.group(1).matches("java\\.util\\.(Arrays|ArrayList|List|Iterator)"));
        }
        methodLengths(code);
    }

    private static void methodLengths(String code) {
        int began = 0;
        String[] lines = code.split("\n");
        for (int i = 0; i < lines.length; i++) {
            if (lines[i].matches(" {4}( {4})?[\\w\\[\\]].*\\) \\{")) {
                began = i;
            }
            if (lines[i].matches(" {4}( {4})?\\}")) {
                yes("11: the length of" + lines[began], i - began <= 60);
                began = i;
            }
        }
    }
}
