import java.io.IOException;
import java.lang.reflect.Constructor;
import java.lang.reflect.Field;
import java.lang.reflect.Method;
import java.lang.reflect.Modifier;
import java.nio.file.Files;
import java.nio.file.Path;
import java.util.Set;
import java.util.TreeSet;
import java.util.regex.Matcher;
import java.util.regex.Pattern;

/** "The public face" of ../shared/DOC.md, row by row, and nothing public beyond it. */
public final class FaceTest {
    private static final Check CHECK = new Check();

    public static void main(String[] args) throws IOException, ReflectiveOperationException {
        String face = face(Files.readString(Path.of("../shared/DOC.md")));
        yes("the document has a face", face.contains("public final class WashHouse {"));
        same("constants", constantsOf(face), constantsOfClass());
        same("calls", callsOf(face), callsOfClass());
        same("constructors", Set.of("WashHouse()"), constructorsOfClass());
        int kind = WashHouse.class.getModifiers();
        yes("the class is public and final", Modifier.isPublic(kind) && Modifier.isFinal(kind));
        yes("the class stands in no package", WashHouse.class.getPackageName().isEmpty());
        yes("the class is under Object alone", WashHouse.class.getSuperclass() == Object.class);
        yes("the class has no interface", WashHouse.class.getInterfaces().length == 0);
        yes("no class inside is public", WashHouse.class.getClasses().length == 0);
        CHECK.end();
    }

    private static void yes(String what, boolean holds) {
        CHECK.due(what, holds ? 1 : 0, 1);
    }

    private static void same(String what, Set<String> due, Set<String> seen) {
        yes(what + " of the document: " + due + ", of the class: " + seen, due.equals(seen) && !due.isEmpty());
    }

    private static String face(String doc) {
        int from = doc.indexOf("## The public face");
        int to = doc.indexOf("## Terms");
        return from < 0 || to < from ? "" : doc.substring(from, to);
    }

    private static Set<String> constantsOf(String face) {
        Set<String> constants = new TreeSet<>();
        Matcher row = Pattern.compile("public static final int ([^;]+);").matcher(face);
        while (row.find()) {
            for (String constant : row.group(1).split(",")) {
                constants.add("int " + constant.strip());
            }
        }
        return constants;
    }

    private static Set<String> constantsOfClass() throws IllegalAccessException {
        Set<String> constants = new TreeSet<>();
        for (Field field : WashHouse.class.getDeclaredFields()) {
            if (!Modifier.isPrivate(field.getModifiers())) {
                yes(field.getName() + " is a public constant", field.getModifiers() == (Modifier.PUBLIC | Modifier.STATIC | Modifier.FINAL));
                constants.add(field.getType() + " " + field.getName() + " = " + field.get(null));
            }
        }
        return constants;
    }

    private static Set<String> callsOf(String face) {
        Set<String> calls = new TreeSet<>();
        Matcher row = Pattern.compile("public (int|long) (\\w+)\\(([^)]*)\\);").matcher(face);
        while (row.find()) {
            calls.add(row.group(1) + " " + row.group(2) + "(" + row.group(3).replaceAll("(\\w+) \\w+", "$1").replace(" ", "") + ")");
        }
        return calls;
    }

    private static Set<String> callsOfClass() {
        Set<String> calls = new TreeSet<>();
        for (Method method : WashHouse.class.getDeclaredMethods()) {
            if (!Modifier.isPrivate(method.getModifiers())) {
                yes(method.getName() + " is public, of an object, and throws nothing",
                        method.getModifiers() == Modifier.PUBLIC && method.getExceptionTypes().length == 0);
                calls.add(method.getReturnType() + " " + method.getName() + "(" + typesOf(method.getParameterTypes()) + ")");
            }
        }
        return calls;
    }

    private static Set<String> constructorsOfClass() {
        Set<String> made = new TreeSet<>();
        for (Constructor<?> constructor : WashHouse.class.getDeclaredConstructors()) {
            yes("the constructor is public", Modifier.isPublic(constructor.getModifiers()));
            made.add("WashHouse(" + typesOf(constructor.getParameterTypes()) + ")");
        }
        return made;
    }

    private static String typesOf(Class<?>[] types) {
        StringBuilder names = new StringBuilder();
        for (Class<?> type : types) {
            names.append(names.length() == 0 ? "" : ",").append(type);
        }
        return names.toString();
    }
}
