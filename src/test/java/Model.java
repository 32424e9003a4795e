import java.math.BigDecimal;
import java.util.ArrayList;
import java.util.Arrays;
import java.util.List;
import java.util.regex.Matcher;
import java.util.regex.Pattern;

/**
 * What the document says, written a second time in another way: with the whole Java library, texts
 * and lists, without a thought of room and speed.
 */
final class Model {
    private static final Pattern TYPE = Pattern.compile("\\[{0,3}(?:[ZBCSIJFDT]|O[0-3])");

    private final int width;
    private String typed = "";
    private final List<List<String>> classes = new ArrayList<>(List.of(List.of(), List.of(), List.of(), List.of()));
    private List<String> parameters = List.of();
    private String result = "V";
    private final List<Integer> data = new ArrayList<>();
    private List<Integer> left = new ArrayList<>();
    private final List<String> tests = new ArrayList<>();
    private int taken = -1;
    private String text = "";
    private int added = 0;

    Model(int width) {
        this.width = width < 40 ? 40 : width > 120 ? 120 : width;
    }

    int type(int c) {
        if (c < 0 || c > 127) {
            return -1;
        }
        if (typed.length() == 40) {
            return -2;
        }
        typed += (char) c;
        return typed.length();
    }

    int fields(int k) {
        if (k < 0 || k > 3) {
            return -1;
        }
        List<String> row = row();
        if (row != null) {
            classes.set(k, row);
        }
        return row == null ? -3 : row.size();
    }

    int parameters() {
        List<String> row = row();
        if (row != null) {
            parameters = row;
        }
        return row == null ? -3 : row.size();
    }

    int result() {
        String line = typed;
        typed = "";
        if (!line.equals("V") && !TYPE.matcher(line).matches()) {
            return -3;
        }
        result = line;
        return 0;
    }

    private List<String> row() {
        String line = typed;
        typed = "";
        if (!line.matches("(?:" + TYPE.pattern() + "){0,4}")) {
            return null;
        }
        List<String> row = new ArrayList<>();
        Matcher m = TYPE.matcher(line);
        while (m.find()) {
            row.add(m.group());
        }
        return row;
    }

    int data(int x) {
        if (data.size() == 60) {
            return -2;
        }
        data.add(x);
        return data.size();
    }

    int clear() {
        int n = data.size();
        data.clear();
        return n;
    }

    int returned() {
        if (tests.size() == 20) {
            return -2;
        }
        left = new ArrayList<>(data);
        String call = call();
        String body;
        if (result.equals("V")) {
            body = call + ";\n";
        } else {
            String value = value(result, false, 0);
            if (value.equals("null")) {
                body = "assertNull(" + call + ");\n";
            } else if (result.equals("Z")) {
                body = "assert" + (value.equals("true") ? "True(" : "False(") + call + ");\n";
            } else if (result.equals("F") || result.equals("D")) {
                body = "assertEquals(" + value + ", " + call + (result.equals("F") ? ", 0.0f);\n" : ", 0.0);\n");
            } else {
                body = "assert" + (result.startsWith("[") ? "Array" : "") + "Equals(" + value + ", " + call + ");\n";
            }
        }
        return add(body);
    }

    int threw() {
        String name = typed;
        typed = "";
        if (!name.matches("[A-Za-z]+")) {
            return -3;
        }
        if (tests.size() == 20) {
            return -2;
        }
        left = new ArrayList<>(data);
        return add(String.join("\n", "try {", "    " + call() + ";", "    fail(\"" + name + "\");",
            "} catch (" + name + " e) {", "}", ""));
    }

    private int add(String body) {
        taken = data.size() - left.size();
        if (body.length() > 300) {
            return -5;
        }
        if (tests.contains(body)) {
            return -4;
        }
        tests.add(body);
        return tests.size() - 1;
    }

    private String call() {
        return "Target.run(" + values(parameters, false, 0) + ")";
    }

    private String values(List<String> types, boolean inArray, int objects) {
        List<String> written = new ArrayList<>();
        for (String t : types) {
            written.add(value(t, inArray, objects));
        }
        return String.join(", ", written);
    }

    private int next() {
        return left.isEmpty() ? 0 : left.remove(0);
    }

    private String value(String type, boolean inArray, int objects) {
        int n = next();
        switch (type.charAt(0)) {
            case 'Z': return String.valueOf(n % 2 != 0);
            case 'B': return "(byte) " + (byte) n;
            case 'S': return "(short) " + (short) n;
            case 'C': return "'" + character((char) n, '\'') + "'";
            case 'I': return n == Integer.MIN_VALUE ? "Integer.MIN_VALUE" : Integer.toString(n);
            case 'J': {
                long x = n * 4294967296L + Integer.toUnsignedLong(next());
                return x == Long.MIN_VALUE ? "Long.MIN_VALUE" : x + "L";
            }
            case 'F': return decimal(new BigDecimal((float) (n / 8.0))) + "f";
            case 'D': return decimal(new BigDecimal(n / 8.0));
            case 'T': return n < 0 ? "null" : quoted(n % 5);
            case '[': {
                String of = type.substring(1);
                return n < 0 ? "null" : (inArray ? "" : "new " + arrayName(type) + " ") + "{"
                    + values(Arrays.asList(of, of, of).subList(0, n % 4), true, objects) + "}";
            }
            default:
                return n < 0 || objects == 4 ? "null" : "new C" + type.charAt(1) + "("
                    + values(classes.get(type.charAt(1) - '0'), false, objects + 1) + ")";
        }
    }

    private static String arrayName(String type) {
        String of = type.replace("[", "");
        String[] names = {"boolean", "byte", "char", "short", "int", "long", "float", "double", "String"};
        String name = of.startsWith("O") ? "C" + of.charAt(1) : names["ZBCSIJFDT".indexOf(of)];
        return name + "[]".repeat(type.length() - of.length());
    }

    private static String decimal(BigDecimal exact) {
        String s = exact.toPlainString();
        return s.contains(".") ? s : s + ".0";
    }

    private String quoted(int length) {
        StringBuilder s = new StringBuilder("\"");
        for (int i = 0; i < length; i++) {
            s.append(character((char) next(), '"'));
        }
        return s.append('"').toString();
    }

    private static String character(char c, char quote) {
        if (c == quote || c == '\\') {
            return "\\" + c;
        }
        if (c == '\n') {
            return "\\n";
        }
        if (c == '\t') {
            return "\\t";
        }
        if (c == '\r') {
            return "\\r";
        }
        return c >= ' ' && c <= '~' ? String.valueOf(c) : String.format("\\u%04X", (int) c);
    }

    int taken() {
        return taken;
    }

    int drop() {
        int n = tests.size();
        tests.clear();
        return n;
    }

    int emit() {
        added = 0;
        List<String> written = new ArrayList<>();
        for (int i = 0; i < tests.size(); i++) {
            StringBuilder test = new StringBuilder("    @Test\n    public void test" + i + "() {\n");
            for (String line : tests.get(i).split("\n")) {
                test.append(broken("        " + line)).append('\n');
            }
            written.add(test + "    }\n");
        }
        text = "public class TargetTest {\n" + String.join("\n", written) + "}\n";
        return text.length();
    }

    private String broken(String line) {
        int own = line.length() - line.stripLeading().length();
        StringBuilder done = new StringBuilder();
        String rest = line;
        while (rest.length() > width) {
            // What stands in quotes is blotted out, so that any comma left is one to break at.
            Matcher quotes = Pattern.compile("'(?:\\\\.|[^'\\\\])*'|\"(?:\\\\.|[^\"\\\\])*\"").matcher(rest);
            String bare = quotes.replaceAll(m -> "x".repeat(m.group().length()));
            int comma = bare.substring(0, Math.min(bare.length(), width + 1)).lastIndexOf(", ");
            int lead = rest.length() - rest.stripLeading().length();
            if (comma <= lead) {
                break;
            }
            done.append(rest, 0, comma + 1).append('\n');
            rest = " ".repeat(own + 8) + rest.substring(comma + 2);
            added++;
        }
        return done + rest;
    }

    int at(int i) {
        return i < 0 || i >= text.length() ? -1 : text.charAt(i);
    }

    private List<String> lines() {
        List<String> lines = new ArrayList<>(Arrays.asList(text.split("\n", -1)));
        lines.remove(lines.size() - 1);
        return lines;
    }

    int line(int k) {
        List<String> lines = lines();
        if (k < 0 || k >= lines.size()) {
            return -1;
        }
        return lines.subList(0, k).stream().mapToInt(s -> s.length() + 1).sum();
    }

    int count(int what) {
        switch (what) {
            case 0: return tests.size();
            case 1: return typed.length();
            case 2: return data.size();
            case 3: return text.length();
            case 4: return lines().size();
            case 5: return lines().stream().mapToInt(String::length).max().orElse(0);
            case 6: return added;
            case 7: return (int) tests.stream().filter(t -> t.startsWith("try {")).count();
            default: return -1;
        }
    }

    String text() {
        return text;
    }
}
