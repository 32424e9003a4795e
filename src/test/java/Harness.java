import java.util.ArrayList;
import java.util.List;
import java.util.function.ToIntFunction;

/**
 * A TestEmitter with calls that take whole words and rows, so that a test reads as what it tells. It
 * asks no object for more than the 512 calls that the document speaks of: what needs more, such as
 * reading a long text, is asked of other objects that had the same calls.
 */
final class Harness {
    static final int MOST_CALLS = 512;

    private final int width;
    private final TestEmitter emitter;
    private final List<ToIntFunction<TestEmitter>> calls = new ArrayList<>();

    Harness(int width) {
        this.width = width;
        emitter = new TestEmitter(width);
    }

    /** Another object that had the same calls. */
    Harness copy() {
        Harness copy = new Harness(width);
        for (ToIntFunction<TestEmitter> call : calls) {
            copy.ask(call);
        }
        return copy;
    }

    private int ask(ToIntFunction<TestEmitter> call) {
        if (calls.size() == MOST_CALLS) {
            throw new IllegalStateException("a test asks for more than " + MOST_CALLS + " calls");
        }
        calls.add(call);
        return call.applyAsInt(emitter);
    }

    int callsLeft() {
        return MOST_CALLS - calls.size();
    }

    int type(int c) {
        return ask(x -> x.type(c));
    }

    int fields(int k) {
        return ask(x -> x.fields(k));
    }

    int parameters() {
        return ask(TestEmitter::parameters);
    }

    int result() {
        return ask(TestEmitter::result);
    }

    int data(int n) {
        return ask(x -> x.data(n));
    }

    int clear() {
        return ask(TestEmitter::clear);
    }

    int returned() {
        return ask(TestEmitter::returned);
    }

    int threw() {
        return ask(TestEmitter::threw);
    }

    int taken() {
        return ask(TestEmitter::taken);
    }

    int drop() {
        return ask(TestEmitter::drop);
    }

    int emit() {
        return ask(TestEmitter::emit);
    }

    int at(int i) {
        return ask(x -> x.at(i));
    }

    int line(int k) {
        return ask(x -> x.line(k));
    }

    int count(int what) {
        return ask(x -> x.count(what));
    }

    Harness typed(String s) {
        for (int i = 0; i < s.length(); i++) {
            type(s.charAt(i));
        }
        return this;
    }

    Harness withFields(int k, String types) {
        typed(types).fields(k);
        return this;
    }

    Harness withParameters(String types) {
        typed(types).parameters();
        return this;
    }

    Harness withResult(String type) {
        typed(type).result();
        return this;
    }

    /** Puts these DATA in the place of those that are there. */
    Harness withData(int... row) {
        clear();
        for (int n : row) {
            data(n);
        }
        return this;
    }

    int returnedFrom(int... row) {
        return withData(row).returned();
    }

    int threw(String name) {
        return typed(name).threw();
    }

    /** THE TEXT as it stands. */
    String text() {
        int length = copy().count(3);
        StringBuilder read = new StringBuilder();
        while (read.length() < length) {
            Harness reader = copy();
            do {
                read.append((char) reader.at(read.length()));
            } while (read.length() < length && reader.callsLeft() > 0);
        }
        return read.toString();
    }

    /** THE TEXT as emit() makes it now. */
    String emitted() {
        Harness copy = copy();
        copy.emit();
        return copy.text();
    }

    /** The lines of the only TEST's body in THE TEXT, without the 8 blanks. */
    String onlyBody() {
        String head = "public class TargetTest {\n    @Test\n    public void test0() {\n";
        String tail = "    }\n}\n";
        String text = emitted();
        boolean framed = text.startsWith(head) && text.endsWith(tail);
        if (!framed) {
            return "no single test: " + text;
        }
        StringBuilder body = new StringBuilder();
        for (String line : text.substring(head.length(), text.length() - tail.length()).split("\n")) {
            body.append(line.startsWith("        ") ? line.substring(8) : "no 8 blanks: " + line).append('\n');
        }
        return body.toString();
    }

    /** The body that a trial returned from these DATA has, when it is the only TEST. */
    String bodyFrom(int... row) {
        Harness copy = copy();
        copy.drop();
        copy.returnedFrom(row);
        return copy.onlyBody();
    }

    /** All that can be told of the state by other calls, but for taken(). */
    String seen() {
        StringBuilder seen = new StringBuilder("counts");
        for (int what = 0; what <= 7; what++) {
            seen.append(' ').append(copy().count(what));
        }
        Harness line = copy();
        line.drop();
        line.threw();
        Harness outcome = copy();
        outcome.drop();
        outcome.returned();
        Harness classes = copy();
        classes.drop();
        classes.parameters();
        classes.withParameters("O0O1O2O3").withResult("V").returnedFrom();
        return seen.append('\n').append(text()).append(emitted()).append(line.emitted()).append(outcome.emitted())
            .append(classes.emitted()).toString();
    }

    /** The body of a TEST that returned, added alone. */
    static String bodyOf(String parameters, String result, int... row) {
        return new Harness(120).withParameters(parameters).withResult(result).bodyFrom(row);
    }

    /** The LITERAL of one argument of the type. */
    static String literalOf(String type, int... row) {
        String body = bodyOf(type, "V", row);
        String opening = "Target.run(";
        String closing = ");\n";
        return body.startsWith(opening) && body.endsWith(closing)
            ? body.substring(opening.length(), body.length() - closing.length())
            : "no call: " + body;
    }
}
