/**
 * The harness' end of a test generator: types are read from typed text, arguments are built from
 * numbers, and trials become the test methods of a Java class. The document numbers what each call
 * promises; its terms are the names used here.
 */
public final class TestEmitter {
    public static final int REFUSED = -1;
    public static final int FULL = -2;
    public static final int BAD = -3;
    public static final int SAME = -4;
    public static final int LONG = -5;

    private static final int LEAST_WIDTH = 40;
    private static final int MOST_WIDTH = 120;
    private static final int LAST_CHARACTER = 127;
    private static final int MOST_TYPED = 40;
    private static final int MOST_TYPES = 4;
    private static final int MOST_BRACKETS = 3;
    private static final int CLASSES = 4;
    private static final int MOST_OBJECTS_AROUND = 4;
    private static final int MOST_DATA = 60;
    private static final int MOST_TESTS = 20;
    private static final int MOST_BODY = 300;

    private final Chars typed = new Chars(MOST_TYPED);
    private TypeRow arguments = new TypeRow();
    private Type outcome = new Type(0, 'V', 0);
    private final Builder builder = new Builder();
    private final Chars call = new Chars(MOST_BODY);
    private final Chars literal = new Chars(MOST_BODY);
    private final Chars body = new Chars(MOST_BODY);
    private final Suite suite = new Suite();
    private final Text text;
    private int lastTaken = REFUSED;

    public TestEmitter(int width) {
        text = new Text(Math.max(LEAST_WIDTH, Math.min(MOST_WIDTH, width)));
    }

    public int type(int c) {
        if (c < 0 || c > LAST_CHARACTER) {
            return REFUSED;
        }
        if (typed.length() >= MOST_TYPED) {
            return FULL;
        }
        typed.put(c);
        return typed.length();
    }

    public int fields(int k) {
        if (k < 0 || k >= CLASSES) {
            return REFUSED;
        }
        TypeRow row = takeTypedRow();
        if (row == null) {
            return BAD;
        }
        builder.setFields(k, row);
        return row.size();
    }

    public int parameters() {
        TypeRow row = takeTypedRow();
        if (row == null) {
            return BAD;
        }
        arguments = row;
        return row.size();
    }

    public int result() {
        Type read = Type.readResult(typed);
        typed.empty();
        if (read == null) {
            return BAD;
        }
        outcome = read;
        return 0;
    }

    public int data(int x) {
        return builder.numbers().add(x) ? builder.numbers().size() : FULL;
    }

    public int clear() {
        int gone = builder.numbers().size();
        builder.numbers().empty();
        return gone;
    }

    public int returned() {
        if (suite.isFull()) {
            return FULL;
        }
        builder.buildCall(arguments, call);
        builder.buildOutcome(outcome, literal);
        lastTaken = builder.numbers().used();
        writeAssertion();
        return keepBody(false);
    }

    public int threw() {
        boolean named = typed.isName();
        int answer = named ? FULL : BAD;
        if (named && !suite.isFull()) {
            builder.buildCall(arguments, call);
            lastTaken = builder.numbers().used();
            writeCatch();
            answer = keepBody(true);
        }
        typed.empty();
        return answer;
    }

    public int taken() {
        return lastTaken;
    }

    public int drop() {
        int gone = suite.size();
        suite.empty();
        return gone;
    }

    public int emit() {
        text.write(suite);
        return text.length();
    }

    public int at(int i) {
        return text.get(i);
    }

    public int line(int k) {
        return text.startOf(k);
    }

    public int count(int what) {
        switch (what) {
            case 0: return suite.size();
            case 1: return typed.length();
            case 2: return builder.numbers().size();
            case 3: return text.length();
            case 4: return text.lines();
            case 5: return text.longest();
            case 6: return text.broken();
            case 7: return suite.thrown();
            default: return REFUSED;
        }
    }

    private TypeRow takeTypedRow() {
        TypeRow row = TypeRow.read(typed);
        typed.empty();
        return row;
    }

    private void writeAssertion() {
        body.empty();
        if (outcome.isSingle('V')) {
            body.put(call);
            body.put(";\n");
            return;
        }
        if (outcome.isSingle('Z')) {
            body.put(literal.holds("true") ? "assertTrue(" : "assertFalse(");
        } else if (literal.holds("null")) {
            body.put("assertNull(");
        } else {
            body.put(outcome.brackets() > 0 ? "assertArrayEquals(" : "assertEquals(");
            body.put(literal);
            body.put(", ");
        }
        body.put(call);
        body.put(outcome.isSingle('F') ? ", 0.0f" : outcome.isSingle('D') ? ", 0.0" : "");
        body.put(");\n");
    }

    private void writeCatch() {
        body.empty();
        body.put("try {\n    ");
        body.put(call);
        body.put(";\n    fail(\"");
        body.put(typed);
        body.put("\");\n} catch (");
        body.put(typed);
        body.put(" e) {\n}\n");
    }

    private int keepBody(boolean fromThrew) {
        if (body.length() > MOST_BODY) {
            return LONG;
        }
        if (suite.holds(body)) {
            return SAME;
        }
        return suite.add(body, fromThrew);
    }

    /** A row of characters that grows, so that one object serves many calls. */
    private static final class Chars {
        private char[] chars;
        private int length;

        Chars(int room) {
            chars = new char[room];
        }

        int length() {
            return length;
        }

        int get(int i) {
            return i >= 0 && i < length ? chars[i] : REFUSED;
        }

        void empty() {
            length = 0;
        }

        void put(int c) {
            if (length == chars.length) {
                char[] larger = new char[2 * length + 1];
                System.arraycopy(chars, 0, larger, 0, length);
                chars = larger;
            }
            chars[length] = (char) c;
            length++;
        }

        void put(String s) {
            for (int i = 0; i < s.length(); i++) {
                put(s.charAt(i));
            }
        }

        void put(Chars other) {
            put(other, 0, other.length);
        }

        void put(Chars other, int from, int end) {
            for (int i = from; i < end; i++) {
                put(other.get(i));
            }
        }

        void putBlanks(int n) {
            for (int i = 0; i < n; i++) {
                put(' ');
            }
        }

        void putNumber(long n) {
            if (n < 0) {
                put('-');
            }
            long unit = 1;
            for (int digits = 1; digits < 19 && (n / unit > 9 || n / unit < -9); digits++) {
                unit *= 10;
            }
            for (; unit > 0; unit /= 10) {
                put('0' + (int) Math.abs(n / unit % 10));
            }
        }

        boolean holds(String s) {
            if (s.length() != length) {
                return false;
            }
            for (int i = 0; i < length; i++) {
                if (s.charAt(i) != chars[i]) {
                    return false;
                }
            }
            return true;
        }

        boolean sameAs(Chars other) {
            if (other.length != length) {
                return false;
            }
            for (int i = 0; i < length; i++) {
                if (other.chars[i] != chars[i]) {
                    return false;
                }
            }
            return true;
        }

        boolean isName() {
            for (int i = 0; i < length; i++) {
                char c = chars[i];
                if (!(c >= 'A' && c <= 'Z' || c >= 'a' && c <= 'z')) {
                    return false;
                }
            }
            return length > 0;
        }
    }

    /** A TYPE, or V as the RESULT alone may have it. */
    private static final class Type {
        private static final String SINGLE_LETTERS = "ZBCSIJFDT";

        private final int brackets;
        private final int letter;
        private final int classNumber;

        Type(int brackets, int letter, int classNumber) {
            this.brackets = brackets;
            this.letter = letter;
            this.classNumber = classNumber;
        }

        /** The TYPE that begins at a place of the line, or null if none does. */
        static Type read(Chars line, int from) {
            int place = from;
            while (place < line.length() && line.get(place) == '[') {
                place++;
            }
            int brackets = place - from;
            if (brackets > MOST_BRACKETS || place >= line.length()) {
                return null;
            }
            int letter = line.get(place);
            if (letter == 'O') {
                int number = line.get(place + 1) - '0';
                return number >= 0 && number < CLASSES ? new Type(brackets, letter, number) : null;
            }
            return SINGLE_LETTERS.indexOf((char) letter) >= 0 ? new Type(brackets, letter, 0) : null;
        }

        static Type readResult(Chars line) {
            if (line.holds("V")) {
                return new Type(0, 'V', 0);
            }
            Type read = read(line, 0);
            return read != null && read.spelledLength() == line.length() ? read : null;
        }

        int spelledLength() {
            return brackets + (letter == 'O' ? 2 : 1);
        }

        int brackets() {
            return brackets;
        }

        int letter() {
            return letter;
        }

        int classNumber() {
            return classNumber;
        }

        boolean isSingle(int wanted) {
            return brackets == 0 && letter == wanted;
        }

        void putArrayName(Chars out) {
            out.put(elementName());
            if (letter == 'O') {
                out.put('0' + classNumber);
            }
            for (int i = 0; i < brackets; i++) {
                out.put("[]");
            }
        }

        private String elementName() {
            switch (letter) {
                case 'Z': return "boolean";
                case 'B': return "byte";
                case 'C': return "char";
                case 'S': return "short";
                case 'I': return "int";
                case 'J': return "long";
                case 'F': return "float";
                case 'D': return "double";
                case 'T': return "String";
                default: return "C";
            }
        }
    }

    /** The FIELDS of a CLASS, or the PARAMETERS. */
    private static final class TypeRow {
        private final Type[] types = new Type[MOST_TYPES];
        private int size;

        /** The row that the whole line spells, or null if it spells none. */
        static TypeRow read(Chars line) {
            TypeRow row = new TypeRow();
            int place = 0;
            while (row.size < MOST_TYPES && place < line.length()) {
                Type next = Type.read(line, place);
                if (next == null) {
                    return null;
                }
                row.types[row.size] = next;
                row.size++;
                place += next.spelledLength();
            }
            return place < line.length() ? null : row;
        }

        int size() {
            return size;
        }

        Type get(int i) {
            return types[i];
        }
    }

    /** The DATA, and how many of them the building at hand has used. */
    private static final class Data {
        private final int[] ints = new int[MOST_DATA];
        private int size;
        private int used;

        boolean add(int x) {
            if (size >= MOST_DATA) {
                return false;
            }
            ints[size] = x;
            size++;
            return true;
        }

        int size() {
            return size;
        }

        int used() {
            return used;
        }

        void empty() {
            size = 0;
            used = 0;
        }

        void rewind() {
            used = 0;
        }

        boolean isUsedUp() {
            return used >= size;
        }

        int next() {
            if (isUsedUp()) {
                return 0;
            }
            used++;
            return ints[used - 1];
        }
    }

    /** Builds values from the DATA, each straight into its LITERAL. */
    private static final class Builder {
        private static final int TEXT_LENGTHS = 5;
        private static final int ARRAY_LENGTHS = 4;
        private static final String DIGITS = "0123456789ABCDEF";

        private final Data numbers = new Data();
        private final TypeRow[] classes = new TypeRow[CLASSES];

        Builder() {
            for (int k = 0; k < CLASSES; k++) {
                classes[k] = new TypeRow();
            }
        }

        Data numbers() {
            return numbers;
        }

        void setFields(int k, TypeRow row) {
            classes[k] = row;
        }

        void buildCall(TypeRow arguments, Chars out) {
            numbers.rewind();
            out.empty();
            out.put("Target.run(");
            buildRow(arguments, 0, out);
            out.put(')');
        }

        /** Builds the RESULT's value from the DATA that the call has left. */
        void buildOutcome(Type outcome, Chars out) {
            out.empty();
            if (!outcome.isSingle('V')) {
                build(outcome, 0, 0, out);
            }
        }

        private void buildRow(TypeRow row, int objectsAround, Chars out) {
            for (int i = 0; i < row.size(); i++) {
                putSeparator(i, out);
                build(row.get(i), 0, objectsAround, out);
            }
        }

        /** Builds a value of the TYPE that is left of this one behind its first arraysAround [. */
        private void build(Type kind, int arraysAround, int objectsAround, Chars out) {
            // A body that is LONG by now and can take no more DATA has its answers already, and
            // without this objects in objects would go on by the ten thousand.
            if (out.length() > MOST_BODY && numbers.isUsedUp()) {
                return;
            }
            if (arraysAround < kind.brackets()) {
                buildArray(kind, arraysAround, objectsAround, out);
                return;
            }
            switch (kind.letter()) {
                case 'Z': out.put((numbers.next() & 1) != 0 ? "true" : "false"); break;
                case 'B': out.put("(byte) "); out.putNumber((byte) numbers.next()); break;
                case 'S': out.put("(short) "); out.putNumber((short) numbers.next()); break;
                case 'C': out.put('\''); putCharacter(numbers.next(), '\'', out); out.put('\''); break;
                case 'I': putInt(numbers.next(), out); break;
                case 'J': buildLong(out); break;
                case 'F': putEighths((long) (float) numbers.next(), out); out.put('f'); break;
                case 'D': putEighths(numbers.next(), out); break;
                case 'T': buildText(out); break;
                default: buildObject(kind.classNumber(), objectsAround, out); break;
            }
        }

        private void buildArray(Type kind, int arraysAround, int objectsAround, Chars out) {
            int n = numbers.next();
            if (n < 0) {
                out.put("null");
                return;
            }
            if (arraysAround == 0) {
                out.put("new ");
                kind.putArrayName(out);
                out.put(' ');
            }
            out.put('{');
            for (int i = 0; i < n % ARRAY_LENGTHS; i++) {
                putSeparator(i, out);
                build(kind, arraysAround + 1, objectsAround, out);
            }
            out.put('}');
        }

        private void buildObject(int classNumber, int objectsAround, Chars out) {
            int n = numbers.next();
            if (n < 0 || objectsAround >= MOST_OBJECTS_AROUND) {
                out.put("null");
                return;
            }
            out.put("new C");
            out.put('0' + classNumber);
            out.put('(');
            buildRow(classes[classNumber], objectsAround + 1, out);
            out.put(')');
        }

        private void buildText(Chars out) {
            int n = numbers.next();
            if (n < 0) {
                out.put("null");
                return;
            }
            out.put('"');
            for (int i = 0; i < n % TEXT_LENGTHS; i++) {
                putCharacter(numbers.next(), '"', out);
            }
            out.put('"');
        }

        private void buildLong(Chars out) {
            long high = numbers.next();
            long low = numbers.next() & 0xFFFFFFFFL;
            long n = (high << 32) + low;
            if (n == Long.MIN_VALUE) {
                out.put("Long.MIN_VALUE");
            } else {
                out.putNumber(n);
                out.put('L');
            }
        }

        private static void putInt(int n, Chars out) {
            if (n == Integer.MIN_VALUE) {
                out.put("Integer.MIN_VALUE");
            } else {
                out.putNumber(n);
            }
        }

        /** Puts n / 8: its three digits behind the point at most say it exactly. */
        private static void putEighths(long n, Chars out) {
            if (n < 0) {
                out.put('-');
            }
            long size = Math.abs(n);
            int thousandths = (int) (size % 8) * 125;
            out.putNumber(size / 8);
            out.put('.');
            out.put('0' + thousandths / 100);
            if (thousandths % 100 != 0) {
                out.put('0' + thousandths / 10 % 10);
            }
            if (thousandths % 10 != 0) {
                out.put('0' + thousandths % 10);
            }
        }

        private static void putCharacter(int x, char quote, Chars out) {
            int c = x & 0xFFFF;
            switch (c) {
                case '\n': out.put("\\n"); return;
                case '\t': out.put("\\t"); return;
                case '\r': out.put("\\r"); return;
                default: break;
            }
            if (c == '\\' || c == quote) {
                out.put('\\');
            }
            if (c >= 32 && c <= 126) {
                out.put(c);
                return;
            }
            out.put("\\u");
            for (int shift = 12; shift >= 0; shift -= 4) {
                out.put(DIGITS.charAt(c >> shift & 15));
            }
        }

        private static void putSeparator(int i, Chars out) {
            if (i > 0) {
                out.put(", ");
            }
        }
    }

    /** The TESTS. */
    private static final class Suite {
        private final Chars[] bodies = new Chars[MOST_TESTS];
        private int size;
        private int thrown;

        int size() {
            return size;
        }

        int thrown() {
            return thrown;
        }

        boolean isFull() {
            return size >= MOST_TESTS;
        }

        Chars bodyOf(int i) {
            return bodies[i];
        }

        boolean holds(Chars body) {
            for (int i = 0; i < size; i++) {
                if (bodies[i].sameAs(body)) {
                    return true;
                }
            }
            return false;
        }

        int add(Chars body, boolean fromThrew) {
            if (isFull()) {
                return FULL;
            }
            bodies[size] = new Chars(body.length());
            bodies[size].put(body);
            size++;
            thrown += fromThrew ? 1 : 0;
            return size - 1;
        }

        void empty() {
            size = 0;
            thrown = 0;
        }
    }

    /** THE TEXT, with where its lines begin. */
    private static final class Text {
        private static final int BODY_INDENT = 8;
        private static final int BROKEN_INDENT = 8;

        private final int width;
        private final Chars chars = new Chars(1024);
        private int[] starts = new int[64];
        private int lines;
        private int nextStart;
        private int longest;
        private int broken;

        Text(int width) {
            this.width = width;
        }

        int length() {
            return chars.length();
        }

        int lines() {
            return lines;
        }

        int longest() {
            return longest;
        }

        int broken() {
            return broken;
        }

        int get(int i) {
            return chars.get(i);
        }

        int startOf(int k) {
            return k >= 0 && k < lines ? starts[k] : REFUSED;
        }

        void write(Suite suite) {
            empty();
            writeLine("public class TargetTest {");
            for (int i = 0; i < suite.size(); i++) {
                if (i > 0) {
                    endLine();
                }
                writeLine("    @Test");
                chars.put("    public void test");
                chars.putNumber(i);
                writeLine("() {");
                writeBody(suite.bodyOf(i));
                writeLine("    }");
            }
            writeLine("}");
        }

        private void empty() {
            chars.empty();
            lines = 0;
            nextStart = 0;
            longest = 0;
            broken = 0;
        }

        private void writeBody(Chars body) {
            int from = 0;
            for (int i = 0; i < body.length(); i++) {
                if (body.get(i) == '\n') {
                    writeBroken(body, from, i);
                    from = i + 1;
                }
            }
        }

        /** Writes the body's line from .. end - 1 in as many lines as BREAKING makes of it. */
        private void writeBroken(Chars body, int from, int end) {
            int start = from;
            while (start < end && body.get(start) == ' ') {
                start++;
            }
            int indent = BODY_INDENT + start - from;
            int blanks = indent;
            while (start < end && blanks + end - start > width) {
                int comma = lastComma(body, start, end, width - blanks);
                if (comma <= start) {
                    break;
                }
                chars.putBlanks(blanks);
                chars.put(body, start, comma + 1);
                endLine();
                broken++;
                start = comma + 2;
                blanks = indent + BROKEN_INDENT;
            }
            chars.putBlanks(blanks);
            chars.put(body, start, end);
            endLine();
        }

        /** The last comma to break at among the next room characters, or REFUSED. */
        private static int lastComma(Chars body, int start, int end, int room) {
            int last = REFUSED;
            int quote = 0;
            for (int i = start; i < end - 1 && i < start + room; i++) {
                int c = body.get(i);
                if (quote != 0) {
                    if (c == '\\') {
                        i++;
                    } else if (c == quote) {
                        quote = 0;
                    }
                } else if (c == '\'' || c == '"') {
                    quote = c;
                } else if (c == ',' && body.get(i + 1) == ' ') {
                    last = i;
                }
            }
            return last;
        }

        private void writeLine(String s) {
            chars.put(s);
            endLine();
        }

        private void endLine() {
            if (lines == starts.length) {
                int[] larger = new int[2 * lines];
                System.arraycopy(starts, 0, larger, 0, lines);
                starts = larger;
            }
            starts[lines] = nextStart;
            lines++;
            longest = Math.max(longest, chars.length() - nextStart);
            chars.put('\n');
            nextStart = chars.length();
        }
    }
}
