import java.math.BigDecimal;

/** BUILDING and LITERALS, which promises 8 and 9 rest on. */
public final class LiteralTest {
    private static final int MIN = Integer.MIN_VALUE;
    private static final int MAX = Integer.MAX_VALUE;

    public static void main(String[] args) {
        booleans();
        bytesAndShorts();
        ints();
        longs();
        doubles();
        floats();
        floatsAgainstTheLibrary();
        characters();
        texts();
        arrays();
        arraysOfEveryName();
        objects();
        objectsInObjects();
        objectsInTheResult();
        arraysAndObjectsMixed();
        Check.end();
    }

    private static void due(String type, String want, int... row) {
        Check.due("the LITERAL of " + type + " from " + java.util.Arrays.toString(row), Harness.literalOf(type, row), want);
    }

    private static void booleans() {
        due("Z", "true", 1);
        due("Z", "true", -1);
        due("Z", "true", -3);
        due("Z", "true", MAX);
        due("Z", "false", 0);
        due("Z", "false", 2);
        due("Z", "false", -2);
        due("Z", "false", MIN);
    }

    private static void bytesAndShorts() {
        due("B", "(byte) 127", 127);
        due("B", "(byte) -128", 128);
        due("B", "(byte) -1", 255);
        due("B", "(byte) 0", 256);
        due("B", "(byte) 0", MIN);
        due("B", "(byte) -1", MAX);
        due("S", "(short) 32767", 32767);
        due("S", "(short) -32768", 32768);
        due("S", "(short) 0", 65536);
        due("S", "(short) -1", MAX);
    }

    private static void ints() {
        due("I", "0", 0);
        due("I", "9", 9);
        due("I", "-9", -9);
        due("I", "-99", -99);
        due("I", "10", 10);
        due("I", "-10", -10);
        due("I", "2147483647", MAX);
        due("I", "-2147483647", -MAX);
        due("I", "Integer.MIN_VALUE", MIN);
    }

    private static void longs() {
        due("J", "0L", 0, 0);
        due("J", "7L", 0, 7);
        due("J", "4294967295L", 0, -1);
        due("J", "2147483648L", 0, MIN);
        due("J", "4294967296L", 1, 0);
        due("J", "-4294967296L", -1, 0);
        due("J", "-1L", -1, -1);
        due("J", "9223372036854775807L", MAX, -1);
        due("J", "-9223372036854775807L", MIN, 1);
        due("J", "Long.MIN_VALUE", MIN, 0);
        due("J", "1000000000000000000L", 232830643, -1486618624);
        due("J", "-2147483648L", -1, MIN);
    }

    private static void doubles() {
        String[] eighths = {"0.0", "0.125", "0.25", "0.375", "0.5", "0.625", "0.75", "0.875", "1.0"};
        for (int i = 0; i <= 8; i++) {
            due("D", eighths[i], i);
            due("D", i == 0 ? "0.0" : "-" + eighths[i], -i);
        }
        due("D", "10.0", 80);
        due("D", "2097152.125", 16777217);
        due("D", "268435455.875", MAX);
        due("D", "-268435456.0", MIN);
    }

    private static void floats() {
        due("F", "0.0f", 0);
        due("F", "-0.125f", -1);
        due("F", "2097151.875f", 16777215);
        due("F", "2097152.0f", 16777216);
        due("F", "2097152.0f", 16777217);
        due("F", "2097152.25f", 16777218);
        due("F", "2097152.5f", 16777219);
        due("F", "-2097152.0f", -16777217);
        due("F", "-2097152.5f", -16777219);
        due("F", "16777216.0f", 134217729);
        due("F", "268435456.0f", MAX);
        due("F", "-268435456.0f", MIN);
    }

    private static void floatsAgainstTheLibrary() {
        for (int shift = 0; shift < 31; shift++) {
            for (int off = -70; off <= 70; off++) {
                int x = (1 << shift) + off;
                String exact = new BigDecimal((float) (x / 8.0)).stripTrailingZeros().toPlainString();
                due("F", (exact.contains(".") ? exact : exact + ".0") + "f", x);
            }
        }
    }

    private static void characters() {
        due("C", "'a'", 'a');
        due("C", "' '", 32);
        due("C", "'~'", 126);
        due("C", "'\\n'", 10);
        due("C", "'\\t'", 9);
        due("C", "'\\r'", 13);
        due("C", "'\\\\'", '\\');
        due("C", "'\\''", '\'');
        due("C", "'\"'", '"');
        due("C", "'\\u0000'", 0);
        due("C", "'\\u001F'", 31);
        due("C", "'\\u007F'", 127);
        due("C", "'\\u0080'", 128);
        due("C", "'\\u000B'", 11);
        due("C", "'\\uABCD'", 0xABCD);
        due("C", "'\\uFFFF'", -1);
        due("C", "'a'", 65536 + 'a');
    }

    private static void texts() {
        due("T", "null", -1, 'a');
        due("T", "null", MIN);
        due("T", "\"\"", 0, 'a');
        due("T", "\"\"", 5, 'a');
        due("T", "\"abcd\"", 4, 'a', 'b', 'c', 'd', 'e');
        due("T", "\"ab\"", MAX, 'a', 'b', 'c');
        due("T", "\"\\n\\t\\r\\\\\"", 9, 10, 9, 13, '\\');
        due("T", "\"'\\\"\\uFFFF \"", 4, '\'', '"', -1, 65536 + ' ');
        due("T", "\"null\"", 4, 'n', 'u', 'l', 'l');
    }

    private static void arrays() {
        due("[I", "null", -1, 5);
        due("[I", "new int[] {}", 0, 5);
        due("[I", "new int[] {}", 4, 5);
        due("[I", "new int[] {5, 6, 7}", 3, 5, 6, 7, 8);
        due("[I", "new int[] {5, 6, 7}", MAX, 5, 6, 7, 8);
        due("[[I", "new int[][] {{1}, null, {}}", 3, 1, 1, -1, 0);
        due("[[[I", "new int[][][] {{{1, 2}, {3}}, null, {null, {}}}", 3, 2, 2, 1, 2, 1, 3, -9, 2, -9, 0);
        due("[T", "new String[] {\"a\", null, \"\"}", 3, 1, 'a', -1, 0);
        due("[B", "new byte[] {(byte) 1, (byte) -1}", 2, 1, -1);
        due("[Z", "new boolean[] {true, false}", 2, 1, 2);
        due("[F", "new float[] {0.5f, -1.0f}", 2, 4, -8);
    }

    private static void arraysOfEveryName() {
        String letters = "ZBCSIJFDT";
        String[] names = {"boolean", "byte", "char", "short", "int", "long", "float", "double", "String"};
        for (int i = 0; i < names.length; i++) {
            due("[" + letters.charAt(i), "new " + names[i] + "[] {}");
            due("[[[" + letters.charAt(i), "new " + names[i] + "[][][] {}");
        }
        for (int k = 0; k < 4; k++) {
            due("[[O" + k, "new C" + k + "[][] {null, {null, new C" + k + "()}}", 2, -1, 2, -1, 1);
        }
    }

    private static void objects() {
        due("O2", "null", -1);
        due("O2", "null", MIN);
        due("O2", "new C2()", 0);
        due("O2", "new C2()", MAX);
        Harness h = new Harness(120).fields(2, "ZT[IJ").parameters("O2I");
        h.returned(3, 1, 1, 'x', 1, 8, 0, 6, 99);
        Check.due("an object with four fields", h.onlyBody(), "Target.run(new C2(true, \"x\", new int[] {8}, 6L), 99);\n");
        h.emitter.drop();
        h.returned(-3, 1, 1, 'x');
        Check.due("a null takes one int alone", h.onlyBody(), "Target.run(null, 1);\n");
    }

    private static void objectsInObjects() {
        Harness h = new Harness(120).fields(0, "O1").fields(1, "O0I").parameters("O0I");
        h.returned(1, 1, 1, 1, 1, 5, 6, 7);
        Check.due("the fifth object is null, and takes its int", h.onlyBody(),
            "Target.run(new C0(new C1(new C0(new C1(null, 5)), 6)), 7);\n");
        h.emitter.drop();
        h.returned(1, 1, -1, 5, 6, 7);
        Check.due("a null on the way", h.onlyBody(), "Target.run(new C0(new C1(null, 5)), 6);\n");
        h.fields(3, "O3O3").parameters("O3");
        h.emitter.drop();
        h.returned(1, 1, 1, 1, -1, -1, 1, 1, -1, 1, -1, 1, 1, -1, -1);
        Check.due("the objects around are counted for each value", h.onlyBody(),
            "Target.run(new C3(new C3(new C3(new C3(null, null), new C3(null, null)), new C3(null, new C3(null, null))),\n"
            + "        null));\n");
    }

    private static void objectsInTheResult() {
        Harness h = new Harness(120).fields(0, "O0").result("O0");
        h.returned(1, 1, 1, 1, 1);
        Check.due("the fifth object of the RESULT is null", h.onlyBody(),
            "assertEquals(new C0(new C0(new C0(new C0(null)))), Target.run());\n");
    }

    private static void arraysAndObjectsMixed() {
        Harness h = new Harness(120).fields(0, "[O0[[I").parameters("[O0").result("[[O0");
        h.returned(1, 0, 1, 0, 0, 1, 1, 7, -1, 1, 1, -1);
        Check.due("an array in an object has its name again", h.onlyBody(),
            "assertArrayEquals(new C0[][] {{null}}, Target.run(new C0[] {new C0(new C0[] {new C0(new C0[] {},\n"
            + "        new int[][] {{7}})}, null)}));\n");
        h.fields(0, "[[O0").parameters("[[O0").result("V");
        h.emitter.drop();
        h.returned(1, 1, 1, 1, 1, 1, 1, 1, 1, 1, 1, 1, 1, 1, 1, 1, 1);
        Check.due("arrays are no objects around", h.onlyBody(),
            "Target.run(new C0[][] {{new C0(new C0[][] {{new C0(new C0[][] {{new C0(new C0[][] {{new C0(new C0[][] {{null}})"
            + "}})}})}})}});\n");
    }
}
