/** A TestEmitter with calls that take whole words and rows, so that a test reads as what it tells. */
final class Harness {
    final TestEmitter emitter;

    Harness(int width) {
        emitter = new TestEmitter(width);
    }

    Harness typed(String s) {
        for (int i = 0; i < s.length(); i++) {
            emitter.type(s.charAt(i));
        }
        return this;
    }

    Harness fields(int k, String types) {
        typed(types);
        emitter.fields(k);
        return this;
    }

    Harness parameters(String types) {
        typed(types);
        emitter.parameters();
        return this;
    }

    Harness result(String type) {
        typed(type);
        emitter.result();
        return this;
    }

    /** Puts these DATA in the place of those that are there. */
    Harness data(int... row) {
        emitter.clear();
        for (int x : row) {
            emitter.data(x);
        }
        return this;
    }

    int returned(int... row) {
        data(row);
        return emitter.returned();
    }

    int threw(String name) {
        typed(name);
        return emitter.threw();
    }

    String text() {
        int length = emitter.emit();
        StringBuilder read = new StringBuilder();
        for (int i = 0; i < length; i++) {
            read.append((char) emitter.at(i));
        }
        return read.toString();
    }

    /** The lines of THE TEXT between the first TEST's head and the class's end, without the 8 blanks. */
    String onlyBody() {
        String head = "public class TargetTest {\n    @Test\n    public void test0() {\n";
        String tail = "    }\n}\n";
        String text = text();
        boolean framed = text.startsWith(head) && text.endsWith(tail);
        if (!framed) {
            return "no single test: " + text;
        }
        StringBuilder body = new StringBuilder();
        for (String line : text.substring(head.length(), text.length() - tail.length()).split("\n")) {
            body.append(line.startsWith("        ") ? line.substring(8) : "no 8 blanks: " + line).append('\n');
        }
        return body.toString();
    }

    /** The body of a TEST that returned, added alone. */
    static String bodyOf(String parameters, String result, int... row) {
        Harness h = new Harness(120).parameters(parameters).result(result);
        h.returned(row);
        return h.onlyBody();
    }

    /** The LITERAL of one argument of the type. */
    static String literalOf(String type, int... row) {
        String body = bodyOf(type, "V", row);
        String opening = "Target.run(";
        String closing = ");\n";
        return body.startsWith(opening) && body.endsWith(closing)
            ? body.substring(opening.length(), body.length() - closing.length())
            : "no call: " + body;
    }
}
