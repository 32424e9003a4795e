import java.math.BigDecimal;

/** The terms of LITERALS, which promises 8 and 9 rest on. */
public final class LiteralTest {
    private static final int MIN = Integer.MIN_VALUE;
    private static final int MAX = Integer.MAX_VALUE;

    public static void main(String[] args) {
        Check.sentences(LiteralTest.class);
    }

    private static void due(String type, String want, int... row) {
        Check.due("the LITERAL of " + type + " from " + java.util.Arrays.toString(row), Harness.literalOf(type, row), want);
    }

    @Sentence(promise = {8, 9}, under = "Terms, literals", says = "A NUMBER n in decimal; its LITERAL, by its TYPE:")
    static void numbersAreDecimal() {
        int power = 1;
        for (int digits = 1; digits <= 10; digits++) {
            due("I", String.valueOf(power), power);
            due("I", "-" + power, -power);
            due("I", String.valueOf(power - 1), power - 1);
            due("I", String.valueOf(1 - power), 1 - power);
            power *= 10;
        }
        long longPower = 1;
        for (int digits = 1; digits <= 19; digits++) {
            for (long n : new long[] {longPower, -longPower, longPower - 1, 1 - longPower}) {
                due("J", n + "L", (int) (n >> 32), (int) n);
            }
            longPower *= 10;
        }
    }

    @Sentence(promise = {8, 9}, under = "Terms, literals", says = "Z: true, false.")
    static void booleans() {
        due("Z", "true", 1);
        due("Z", "false", 0);
    }

    @Sentence(promise = {8, 9}, under = "Terms, literals", says = "B: \"(byte) \" and NUMBER.")
    static void bytes() {
        for (int n = -128; n <= 127; n++) {
            due("B", "(byte) " + n, n);
        }
    }

    @Sentence(promise = {8, 9}, under = "Terms, literals", says = "S: \"(short) \" and NUMBER.")
    static void shorts() {
        for (int n : new int[] {-32768, -32767, -1, 0, 1, 9, 10, 32766, 32767}) {
            due("S", "(short) " + n, n);
        }
    }

    @Sentence(promise = {8, 9}, under = "Terms, literals", says = "C: ' CHARACTER '.")
    static void chars() {
        due("C", "'a'", 'a');
        due("C", "'\\u0000'", 0);
        due("C", "'\\uFFFF'", 65535);
        due("[C", "new char[] {',', ' '}", 2, ',', ' ');
    }

    @Sentence(promise = {8, 9}, under = "Terms, literals", says = "I: NUMBER, or Integer.MIN_VALUE.")
    static void ints() {
        due("I", "Integer.MIN_VALUE", MIN);
        due("I", "-2147483647", MIN + 1);
        due("I", "2147483647", MAX);
        due("I", "0", 0);
        due("[I", "new int[] {Integer.MIN_VALUE, -1}", 2, MIN, -1);
    }

    @Sentence(promise = {8, 9}, under = "Terms, literals", says = "J: NUMBER and L, or Long.MIN_VALUE.")
    static void longs() {
        due("J", "Long.MIN_VALUE", MIN, 0);
        due("J", "-9223372036854775807L", MIN, 1);
        due("J", "9223372036854775807L", MAX, -1);
        due("J", "-2147483648L", -1, MIN);
        due("J", "0L", 0, 0);
        due("[J", "new long[] {Long.MIN_VALUE, -1L}", 2, MIN, 0, -1, -1);
    }

    @Sentence(promise = {8, 9}, under = "Terms, literals",
        says = "F, D: the exact decimal number with at least one digit behind the point and no 0 too much at the end,")
    static void pointNumbers() {
        String[] decimals = {"12.0", "12.125", "12.25", "12.375", "12.5", "12.625", "12.75", "12.875"};
        for (int i = 0; i < 8; i++) {
            due("D", decimals[i], 96 + i);
            due("D", "-" + decimals[i], -96 - i);
            due("F", decimals[i] + "f", 96 + i);
            due("F", "-" + decimals[i] + "f", -96 - i);
        }
        due("D", "-0.125", -1);
        due("D", "10.0", 80);
        due("D", "100000000.0", 800000000);
        due("F", "100000000.0f", 800000000);
        due("D", "-268435456.0", MIN);
    }

    @Sentence(promise = {8, 9}, under = "Terms, literals", says = "f behind it for F (0.0 for 0).")
    static void zeroHasAPoint() {
        due("D", "0.0", 0);
        due("F", "0.0f", 0);
        due("F", "1.0f", 8);
        due("[F", "new float[] {0.0f, -1.0f}", 2, 0, -8);
        due("[D", "new double[] {0.0, -1.0}", 2, 0, -8);
    }

    @Sentence(promise = {8, 9}, under = "Terms, literals", says = "T: \" CHARACTERS \".")
    static void texts() {
        due("T", "\"\"", 0);
        due("T", "\"a\"", 1, 'a');
        due("T", "\" , )\"", 4, ' ', ',', ' ', ')');
        due("T", "\"null\"", 4, 'n', 'u', 'l', 'l');
    }

    @Sentence(promise = {8, 9}, under = "Terms, literals",
        says = "An array: \"new \", its ARRAY NAME, \" {\", its values, \"}\";")
    static void arrays() {
        due("[I", "new int[] {}", 0);
        due("[I", "new int[] {5}", 1, 5);
        due("[I", "new int[] {5, 6, 7}", 3, 5, 6, 7);
        due("[[[D", "new double[][][] {}", 0);
        Harness h = new Harness(120).withFields(0, "[I").withParameters("[O0");
        Check.due("an array of an object in an array", h.bodyFrom(1, 1, 1, 9),
            "Target.run(new C0[] {new C0(new int[] {9})});\n");
    }

    @Sentence(promise = {8, 9}, under = "Terms, literals",
        says = "but as a value of an array itself just \"{\", its values, \"}\".")
    static void arraysInArrays() {
        due("[[I", "new int[][] {{}, {5}, {6, 7}}", 3, 0, 1, 5, 2, 6, 7);
        due("[[[T", "new String[][][] {{{\"\"}, {}}, {}}", 2, 2, 1, 0, 0, 0);
    }

    @Sentence(promise = {8, 9}, under = "Terms, literals",
        says = "An object: \"new C\", the CLASS's digit, \"(\", its values, \")\".")
    static void objects() {
        for (int k = 0; k <= 3; k++) {
            due("O" + k, "new C" + k + "()", 0);
            Harness h = new Harness(120).withFields(k, "IZ").withParameters("O" + k);
            Check.due("an object of CLASS " + k, h.bodyFrom(0, 1, 1), "Target.run(new C" + k + "(1, true));\n");
        }
    }

    @Sentence(promise = {8, 9}, under = "Terms, literals", says = "null of all: null.")
    static void nulls() {
        for (String type : new String[] {"T", "[I", "[[[T", "O0", "O3", "[O1"}) {
            due(type, "null", -1);
        }
        due("[T", "new String[] {null, \"\", null}", 3, -1, 0, -1);
        due("[[Z", "new boolean[][] {null, {}}", 2, -1, 0);
        due("[O2", "new C2[] {null, new C2()}", 2, -1, 0);
    }

    @Sentence(promise = {8, 9}, under = "Terms, literals", says = "Values are separated by a comma and a blank.")
    static void separators() {
        Harness h = new Harness(120).withFields(0, "IIII").withParameters("[I[[ZO0I");
        Check.due("values of arrays, objects and calls", h.bodyFrom(3, 1, 2, 3, 2, 2, 1, 0, 1, 1, 0, 4, 5, 6, 7, 8),
            "Target.run(new int[] {1, 2, 3}, new boolean[][] {{true, false}, {true}}, new C0(4, 5, 6, 7), 8);\n");
        due("[I", "new int[] {1}", 1, 1);
        due("[I", "new int[] {}", 0, 1);
    }

    @Sentence(promise = {8, 9}, under = "Terms, literals",
        says = "ARRAY NAME: boolean byte char short int long float double String, C and digit, and [] for each [.")
    static void arrayNames() {
        String[] types = {"Z", "B", "C", "S", "I", "J", "F", "D", "T", "O0", "O1", "O2", "O3"};
        String[] names = {"boolean", "byte", "char", "short", "int", "long", "float", "double", "String", "C0", "C1", "C2", "C3"};
        for (int i = 0; i < names.length; i++) {
            due("[" + types[i], "new " + names[i] + "[] {}");
            due("[[" + types[i], "new " + names[i] + "[][] {}");
            due("[[[" + types[i], "new " + names[i] + "[][][] {}");
        }
    }

    @Sentence(promise = {8, 9}, under = "Terms, literals", says = "CHARACTER: \\n \\t \\r \\\\ for 10, 9, 13 and the backslash;")
    static void namedCharacters() {
        int[] characters = {10, 9, 13, '\\'};
        String[] names = {"\\n", "\\t", "\\r", "\\\\"};
        for (int i = 0; i < 4; i++) {
            due("C", "'" + names[i] + "'", characters[i]);
            due("T", "\"" + names[i] + names[i] + "\"", 2, characters[i], characters[i]);
        }
        due("T", "\"\\n\\t\\r\\\\\"", 4, 10, 9, 13, '\\');
    }

    @Sentence(promise = {8, 9}, under = "Terms, literals", says = "' in '..' and \" in \"..\" with a \\ before it;")
    static void quotesInQuotes() {
        due("C", "'\\''", '\'');
        due("C", "'\"'", '"');
        due("T", "\"'\\\"'\\\"\"", 4, '\'', '"', '\'', '"');
    }

    @Sentence(promise = {8, 9}, under = "Terms, literals", says = "32 to 126 as it is;")
    static void plainCharacters() {
        for (int c = 32; c <= 126; c++) {
            if (c != '\\' && c != '\'') {
                due("C", "'" + (char) c + "'", c);
            }
            if (c != '\\' && c != '"') {
                due("T", "\"" + (char) c + "\"", 1, c);
            }
        }
    }

    @Sentence(promise = {8, 9}, under = "Terms, literals", says = "others \\u and four digits in base 16 with A .. F.")
    static void otherCharacters() {
        int[] edges = {127, 128, 160, 255, 256, 4095, 4096, 0x9ABC, 0xABCD, 0xD800, 0xDFFF, 0xEF09, 0xFFFE, 0xFFFF};
        for (int c = 0; c < 32 + edges.length; c++) {
            int x = c < 32 ? c : edges[c - 32];
            if (x != 9 && x != 10 && x != 13) {
                due("C", String.format("'\\u%04X'", x), x);
                due("T", String.format("\"\\u%04X\"", x), 1, x);
            }
        }
    }

    @Sentence(promise = {8, 9}, under = "Terms, literals",
        says = "A float takes the nearest of its format's numbers to the int / 8 (24 bits, halves to the even one),")
    static void floatsAreRounded() {
        due("F", "2097151.875f", 16777215);
        due("F", "2097152.0f", 16777216);
        due("F", "2097152.0f", 16777217);
        due("F", "2097152.25f", 16777218);
        due("F", "2097152.5f", 16777219);
        due("F", "-2097152.0f", -16777217);
        due("F", "-2097152.5f", -16777219);
        due("F", "4194304.0f", 33554434);
        due("F", "4194304.5f", 33554435);
        due("F", "4194305.0f", 33554438);
        due("F", "268435456.0f", MAX);
        due("F", "268435456.0f", MAX - 63);
        due("F", "268435440.0f", MAX - 64);
        due("F", "-268435456.0f", MIN);
        due("D", "2097152.125", 16777217);
    }

    @Sentence(promise = {8, 9}, under = "Terms, literals", says = "and its LITERAL is that number exactly.")
    static void floatsAreWrittenExactly() {
        for (int shift = 0; shift < 31; shift++) {
            for (int off = -70; off <= 70; off++) {
                int x = (1 << shift) + off;
                String exact = new BigDecimal((float) (x / 8.0)).stripTrailingZeros().toPlainString();
                due("F", (exact.contains(".") ? exact : exact + ".0") + "f", x);
            }
        }
        due("F", "123456792.0f", 987654321);
        due("F", "-15432099.0f", -123456789);
    }
}
