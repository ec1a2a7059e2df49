import java.io.IOException;
import java.nio.file.Files;
import java.nio.file.Path;
import java.util.ArrayList;
import java.util.LinkedHashMap;
import java.util.List;
import java.util.Map;

/**
 * The words of ../shared/DOC.md by its parts: "What it is", "Terms", "1" to "6" (the parts of the
 * terms) and "Promise 1" to "Promise 39". A test quotes the sentence that it holds; what nobody
 * quoted is told at the end, so that no sentence is passed over.
 */
final class Doc {
    private final Map<String, String> parts = new LinkedHashMap<>();
    private final Map<String, boolean[]> quoted = new LinkedHashMap<>();

    Doc(Path path) throws IOException {
        String part = "";
        for (String line : Files.readAllLines(path)) {
            if (line.startsWith("## ")) {
                part = line.substring(3).replaceAll(":.*", "");
            } else if (line.startsWith("Ahead of the calls ")) {
                part = "the interface";
            } else if (line.startsWith("```")) {
                continue;
            } else if (line.startsWith("======== ")) {
                part = line.substring(9, 10);
                add(part, line.substring(11));
            } else {
                add(part, line.replaceAll("^`.*?`: ", ""));
            }
        }
        parts.forEach((name, text) -> quoted.put(name, new boolean[text.length()]));
    }

    private void add(String part, String line) {
        parts.merge(part, line.strip(), (a, b) -> b.isEmpty() ? a : (a + " " + b).strip());
    }

    /** Marks every place where the part says these words, and tells whether there is one. */
    boolean says(String part, String words) {
        String text = parts.getOrDefault(part, "");
        int at = text.indexOf(words);
        boolean found = at >= 0;
        while (at >= 0) {
            for (int i = at; i < at + words.length(); i++) {
                quoted.get(part)[i] = true;
            }
            at = text.indexOf(words, at + 1);
        }
        return found;
    }

    /** What the terms and the promises say beyond all that was quoted. */
    List<String> unquoted() {
        List<String> rest = new ArrayList<>();
        parts.forEach((part, text) -> {
            if (part.equals("Terms") || part.length() == 1 || part.startsWith("Promise ")) {
                rest.addAll(gaps(part, text, quoted.get(part)));
            }
        });
        return rest;
    }

    private static List<String> gaps(String part, String text, boolean[] marks) {
        StringBuilder plain = new StringBuilder();
        for (int i = 0; i < text.length(); i++) {
            plain.append(marks[i] ? '\n' : text.charAt(i));
        }
        List<String> rest = new ArrayList<>();
        for (String gap : plain.toString().split("\n")) {
            if (gap.matches(".*\\w.*")) {
                rest.add(part + ": " + gap.strip());
            }
        }
        return rest;
    }
}
