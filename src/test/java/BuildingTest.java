/** The terms of BUILDING, which promises 8 and 9 rest on. */
public final class BuildingTest {
    private static final int MIN = Integer.MIN_VALUE;
    private static final int MAX = Integer.MAX_VALUE;

    public static void main(String[] args) {
        Check.sentences(BuildingTest.class);
    }

    private static void due(String type, String want, int... row) {
        Check.due(type + " from " + java.util.Arrays.toString(row), Harness.literalOf(type, row), want);
    }

    /** What is due for a value with an int behind it tells how many ints the value took. */
    private static void dueWithNext(String type, String want, int... row) {
        Check.due(type + "I from " + java.util.Arrays.toString(row), Harness.bodyOf(type + "I", "V", row),
            "Target.run(" + want + ");\n");
    }

    @Sentence(promise = {8, 9}, under = "Terms, building", says = "Z: an int, true if it is odd.")
    static void oddIsTrue() {
        for (int odd : new int[] {1, -1, 3, -3, MAX, MIN + 1}) {
            due("Z", "true", odd);
        }
        for (int even : new int[] {0, 2, -2, MIN, MAX - 1}) {
            due("Z", "false", even);
        }
        dueWithNext("Z", "true, 5", 7, 5, 6);
    }

    @Sentence(promise = {8, 9}, under = "Terms, building", says = "B, C, S, I: an int, as Java casts it.")
    static void castsWrapAround() {
        int[] bytes = {127, 128, 255, 256, -128, -129, MIN, MAX};
        int[] asBytes = {127, -128, -1, 0, -128, 127, 0, -1};
        int[] shorts = {32767, 32768, 65535, 65536, -32768, -32769, MIN, MAX};
        int[] asShorts = {32767, -32768, -1, 0, -32768, 32767, 0, -1};
        for (int i = 0; i < 8; i++) {
            due("B", "(byte) " + asBytes[i], bytes[i]);
            due("S", "(short) " + asShorts[i], shorts[i]);
        }
        due("C", "'a'", 65536 + 'a');
        due("C", "'a'", MIN + 'a');
        due("C", "'\\uFFFF'", -1);
        due("C", "'\\uFFFF'", MAX);
        due("C", "'\\u8000'", -32768);
        due("I", "2147483647", MAX);
        due("I", "-2147483647", MIN + 1);
        for (String type : new String[] {"B", "C", "S", "I"}) {
            Check.due("the ints that " + type + " takes", takenBy(type), 1);
        }
    }

    private static int takenBy(String type) {
        Harness h = new Harness(120).withParameters(type);
        h.returnedFrom(4, 4, 4, 4, 4, 4, 4, 4);
        return h.taken();
    }

    @Sentence(promise = {8, 9}, under = "Terms, building",
        says = "J: two ints, the first * 2^32 + the second read as not below 0.")
    static void longsAreMadeOfTwoInts() {
        due("J", "7L", 0, 7);
        due("J", "2147483647L", 0, MAX);
        due("J", "2147483648L", 0, MIN);
        due("J", "4294967295L", 0, -1);
        due("J", "4294967296L", 1, 0);
        due("J", "8589934591L", 1, -1);
        due("J", "-4294967296L", -1, 0);
        due("J", "-2147483648L", -1, MIN);
        due("J", "-1L", -1, -1);
        due("J", "9223372036854775807L", MAX, -1);
        due("J", "-9223372036854775807L", MIN, 1);
        dueWithNext("J", "4294967298L, 3", 1, 2, 3, 4);
    }

    @Sentence(promise = {8, 9}, under = "Terms, building", says = "F, D: an int / 8.")
    static void eighths() {
        String[] eighths = {"0.0", "0.125", "0.25", "0.375", "0.5", "0.625", "0.75", "0.875", "1.0", "1.125"};
        for (int i = 0; i < eighths.length; i++) {
            due("D", eighths[i], i);
            due("F", eighths[i] + "f", i);
            due("D", i == 0 ? "0.0" : "-" + eighths[i], -i);
            due("F", i == 0 ? "0.0f" : "-" + eighths[i] + "f", -i);
        }
        due("D", "268435455.875", MAX);
        due("D", "-268435455.875", MIN + 1);
        due("D", "-268435456.0", MIN);
        dueWithNext("F", "0.5f, 3", 4, 3, 2);
        dueWithNext("D", "0.5, 3", 4, 3, 2);
    }

    @Sentence(promise = {8, 9}, under = "Terms, building", says = "T: an int n; below 0: null;")
    static void textsBelow0AreNull() {
        for (int n : new int[] {-1, -2, -5, MIN}) {
            dueWithNext("T", "null, 97", n, 'a', 'b');
        }
        due("T", "\"\"", 0, 'a');
    }

    @Sentence(promise = {8, 9}, under = "Terms, building", says = "else a text of n % 5 characters,")
    static void textsWrapAroundAt5() {
        String[] texts = {"\"\", 112", "\"p\", 113", "\"pq\", 114", "\"pqr\", 115", "\"pqrs\", 116"};
        for (int n : new int[] {0, 1, 2, 3, 4, 5, 6, 9, 10, 1000000004, MAX - 3, MAX - 2, MAX - 1, MAX}) {
            dueWithNext("T", texts[n % 5], n, 'p', 'q', 'r', 's', 't');
        }
    }

    @Sentence(promise = {8, 9}, under = "Terms, building", says = "each an int, of it the low 16 bits.")
    static void charactersHave16Bits() {
        due("T", "\"abcd\"", 4, 65536 + 'a', -65536 + 'b', MIN + 'c', 0x7FFF0000 + 'd');
        due("T", "\"\\u8000\\uFFFF\\uFFFF\"", 3, 32768, 65535, -1);
        due("T", "\"\\u0000\\u0001\"", 2, 65536, 65537);
    }

    @Sentence(promise = {8, 9}, under = "Terms, building", says = "[X: an int n; below 0: null;")
    static void arraysBelow0AreNull() {
        for (int n : new int[] {-1, -2, -4, MIN}) {
            dueWithNext("[I", "null, 7", n, 7, 8);
            dueWithNext("[[[O0", "null, 7", n, 7, 8);
            dueWithNext("[[I", "new int[][] {null}, 7", 1, n, 7, 8);
        }
        due("[I", "new int[] {}", 0, 7);
    }

    @Sentence(promise = {8, 9}, under = "Terms, building", says = "else an array of n % 4 values X, built in order.")
    static void arraysWrapAroundAt4() {
        String[] values = {"{}, 7", "{7}, 8", "{7, 8}, 9", "{7, 8, 9}, 10"};
        for (int n : new int[] {0, 1, 2, 3, 4, 5, 7, 8, 1000000003, MAX - 2, MAX - 1, MAX}) {
            dueWithNext("[I", "new int[] " + values[n % 4], n, 7, 8, 9, 10, 11);
        }
        due("[[[I", "new int[][][] {{{1, 2}, {3}}, null, {null, {}}}", 3, 2, 2, 1, 2, 1, 3, -9, 2, -9, 0);
        due("[[I", "new int[][] {{1, 2, 3}, {4}, {}}", MAX, 7, 1, 2, 3, 5, 4, 4);
        due("[T", "new String[] {\"a\", null, \"\"}", 3, 1, 'a', -1, 0);
        due("[J", "new long[] {1L, 4294967296L}", 2, 0, 1, 1, 0);
    }

    @Sentence(promise = {8, 9}, under = "Terms, building", says = "On: an int; below 0: null,")
    static void objectsBelow0AreNull() {
        Harness h = new Harness(120).withFields(2, "II").withParameters("O2I");
        for (int n : new int[] {-1, -2, MIN}) {
            Check.due("an object from " + n, h.bodyFrom(n, 7, 8, 9), "Target.run(null, 7);\n");
        }
        for (int n : new int[] {0, 1, 2, MAX}) {
            Check.due("an object from " + n, h.bodyFrom(n, 7, 8, 9), "Target.run(new C2(7, 8), 9);\n");
        }
    }

    @Sentence(promise = {8, 9}, under = "Terms, building",
        says = "as it is also if 4 objects are being built around it (of any CLASS);")
    static void fifthObjectIsNull() {
        Harness one = new Harness(120).withFields(0, "O0").withParameters("O0I");
        Check.due("four of one CLASS", one.bodyFrom(1, 1, 1, -1, 7),
            "Target.run(new C0(new C0(new C0(null))), 7);\n");
        Check.due("five of one CLASS", one.bodyFrom(1, 1, 1, 1, 1, 7),
            "Target.run(new C0(new C0(new C0(new C0(null)))), 7);\n");
        Check.due("five of one CLASS, the fifth below 0", one.bodyFrom(1, 1, 1, 1, -1, 7),
            "Target.run(new C0(new C0(new C0(new C0(null)))), 7);\n");
        Harness four = new Harness(120).withFields(0, "O1").withFields(1, "O2").withFields(2, "O3").withFields(3, "O0");
        four.withParameters("O0O2").withResult("O3");
        Check.due("five of four CLASSES", four.bodyFrom(),
            "assertEquals(new C3(new C0(new C1(new C2(null)))), Target.run(new C0(new C1(new C2(new C3(null)))),\n"
            + "        new C2(new C3(new C0(new C1(null))))));\n");
    }

    @Sentence(promise = {8, 9}, under = "Terms, building", says = "if 4 objects are being built around it")
    static void onlyObjectsAroundAreCounted() {
        Harness beside = new Harness(120).withFields(3, "O3O3").withParameters("O3");
        Check.due("objects that are built already are not around",
            beside.bodyFrom(1, 1, 1, 1, -1, -1, 1, 1, -1, 1, -1, 1, 1, -1, -1),
            "Target.run(new C3(new C3(new C3(new C3(null, null), new C3(null, null)), new C3(null, new C3(null, null))),\n"
            + "        null));\n");
        Harness arrays = new Harness(120).withFields(0, "[[O0").withParameters("[[O0");
        Check.due("arrays are no objects", arrays.bodyFrom(1, 1, 1, 1, 1, 1, 1, 1, 1, 1, 1, 1, 1, 1, 1, 1, 1),
            "Target.run(new C0[][] {{new C0(new C0[][] {{new C0(new C0[][] {{new C0(new C0[][] {{new C0(new C0[][] {{null}})"
            + "}})}})}})}});\n");
    }

    @Sentence(promise = {8, 9}, under = "Terms, building",
        says = "else an object with the values of its CLASS's FIELDS, built in order.")
    static void objectsHaveTheirFieldsInOrder() {
        Harness h = new Harness(120).withFields(2, "ZT[IJ").withParameters("O2O1I");
        Check.due("an object with four FIELDS and one with none", h.bodyFrom(3, 1, 1, 'x', 1, 8, 0, 6, 0, 99),
            "Target.run(new C2(true, \"x\", new int[] {8}, 6L), new C1(), 99);\n");
        Harness deep = new Harness(120).withFields(0, "O1I").withFields(1, "O0I").withParameters("O0I");
        Check.due("FIELDS behind an object", deep.bodyFrom(1, 1, -1, 5, 6, 7),
            "Target.run(new C0(new C1(null, 5), 6), 7);\n");
        Check.due("FIELDS behind a fifth object", deep.bodyFrom(1, 1, 1, 1, 1, 5, 6, 7, 8, 9),
            "Target.run(new C0(new C1(new C0(new C1(null, 5), 6), 7), 8), 9);\n");
    }
}
