/** Holds one sentence of the document after another by calls on new objects. */
final class Edges {
    private final Check check;
    private final Doc doc;

    Edges(Check check, Doc doc) {
        this.check = check;
        this.doc = doc;
    }

    /** What a part of the document says, and calls that it makes answer so. */
    void says(String part, String sentence, String calls) {
        quote(part, sentence);
        check.run(part + " \"" + sentence + "\"", calls);
    }

    /** For a sentence whose calls do not fit into one row of them. */
    void quote(String part, String sentence) {
        check.due("the document, " + part + ": \"" + sentence + "\"", doc.says(part, sentence) ? 1 : 0, 1);
    }

    /** A call once for each number from 0 up to n, which stands for #. */
    static String each(String call, int n) {
        StringBuilder calls = new StringBuilder();
        for (int i = 0; i < n; i++) {
            calls.append(call.replace("#", String.valueOf(i)));
        }
        return calls.toString();
    }

    Check check() {
        return check;
    }

    void end() {
        for (String gap : doc.unquoted()) {
            check.due("no test for: " + gap, 0, 1);
        }
        check.end();
    }
}
