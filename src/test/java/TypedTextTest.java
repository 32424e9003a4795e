/** Promises 2 to 5: type, fields, parameters and result, with the terms of types that they speak of. */
public final class TypedTextTest {
    private static final int MIN = Integer.MIN_VALUE;
    private static final int MAX = Integer.MAX_VALUE;
    private static final String LONGEST_ROW = "[[[O0[[[O1[[[O2[[[O3";

    public static void main(String[] args) {
        Check.sentences(TypedTextTest.class);
    }

    /** What the typed row is answered as the PARAMETERS and as the FIELDS of each CLASS. */
    private static void dueAsRow(String row, int want) {
        Check.due("parameters() of " + row, new Harness(40).typed(row).parameters(), want);
        for (int k = 0; k <= 3; k++) {
            Check.due("fields(" + k + ") of " + row, new Harness(40).typed(row).fields(k), want);
        }
    }

    private static void dueAsResult(String typed, int want) {
        Check.due("result() of " + typed, new Harness(40).typed(typed).result(), want);
    }

    // Terms

    @Sentence(promise = 2, under = "Terms, types", says = "THE LINE holds at most 40 characters (0 .. 127).")
    static void lineHolds40OfAllCharacters() {
        for (int from = 0; from <= 120; from += 40) {
            Harness h = new Harness(40);
            for (int c = from; c < from + 40 && c <= 127; c++) {
                Check.due("type(" + c + ")", h.type(c), c - from + 1);
            }
            Check.due("count(1) from " + from, h.count(1), from == 120 ? 8 : 40);
        }
    }

    @Sentence(promise = {3, 4, 5}, under = "Terms, types", says = "A TYPE is one letter of Z B C S I J F D T,")
    static void nineLettersAreTypes() {
        for (int c = 0; c <= 127; c++) {
            String letter = String.valueOf((char) c);
            boolean isType = "ZBCSIJFDT".indexOf(c) >= 0;
            dueAsRow(letter, isType ? 1 : -3);
            dueAsRow("[" + letter, isType ? 1 : -3);
            dueAsResult("[" + letter, isType ? 0 : -3);
            if (c != 'V') {
                dueAsResult(letter, isType ? 0 : -3);
            }
        }
    }

    @Sentence(promise = {3, 4, 5}, under = "Terms, types", says = "or O and a digit 0 .. 3 (CLASS 0 .. 3),")
    static void fourClassesAreTypes() {
        for (int c = 0; c <= 127; c++) {
            boolean isClass = c >= '0' && c <= '3';
            dueAsRow("O" + (char) c, isClass ? 1 : -3);
            dueAsResult("O" + (char) c, isClass ? 0 : -3);
        }
        for (String noClass : new String[] {"O", "[O", "O00", "O0O", "OO0", "0O", "o0", "O 0"}) {
            dueAsRow(noClass, -3);
            dueAsResult(noClass, -3);
        }
    }

    @Sentence(promise = {3, 4, 5}, under = "Terms, types", says = "or [ and a TYPE; at most 3 [ at its beginning.")
    static void threeBracketsAtMost() {
        for (String element : new String[] {"I", "T", "O0", "O3"}) {
            for (int brackets = 0; brackets <= 5; brackets++) {
                String type = "[".repeat(brackets) + element;
                dueAsRow(type, brackets <= 3 ? 1 : -3);
                dueAsResult(type, brackets <= 3 ? 0 : -3);
                dueAsRow("[[[I" + type + "[[[I", brackets <= 3 ? 3 : -3);
            }
        }
        for (String noType : new String[] {"[", "[[[", "[[[[", "I[", "]", "[]I", "[V", "I[[[", "[".repeat(40)}) {
            dueAsRow(noType, -3);
            dueAsResult(noType, -3);
        }
    }

    @Sentence(promise = {3, 4}, under = "Terms, types", says = "A row of at most 4 TYPES,")
    static void rowsHaveFourTypesAtMost() {
        String[] rows = {"I", "IJ", "IJF", "IJFD", "IJFDT", "IJFDTZ", "O0", "O0O1", "O0O1O2", "O0O1O2O3", "O0O1O2O3I",
            "O0O1O2O3O0"};
        for (String row : rows) {
            int size = row.replaceAll("[0-9]", "").length();
            dueAsRow(row, size <= 4 ? size : -3);
        }
        dueAsRow(LONGEST_ROW, 4);
        dueAsRow(LONGEST_ROW + "I", -3);
        dueAsRow(LONGEST_ROW + "[", -3);
        dueAsRow(LONGEST_ROW + LONGEST_ROW, -3);
    }

    @Sentence(promise = {3, 4}, under = "Terms, types", says = "perhaps none,")
    static void rowsMayBeEmpty() {
        dueAsRow("", 0);
        Harness h = new Harness(120).withFields(0, "I").withParameters("O0I");
        Check.due("fields(0) of nothing", h.fields(0), 0);
        Check.due("the body without FIELDS", h.bodyFrom(1, 7), "Target.run(new C0(), 7);\n");
        Check.due("parameters() of nothing", h.parameters(), 0);
        Check.due("the body without PARAMETERS", h.bodyFrom(1, 7), "Target.run();\n");
    }

    @Sentence(promise = 3, under = "Terms, types", says = "is the FIELDS of a CLASS (none at first)")
    static void noFieldsAtFirst() {
        for (int k = 0; k <= 3; k++) {
            Check.due("a new object's O" + k, Harness.literalOf("O" + k, 1, 2, 3), "new C" + k + "()");
        }
    }

    @Sentence(promise = 4, under = "Terms, types", says = "or the PARAMETERS (none at first).")
    static void noParametersAtFirst() {
        Check.due("a new object's body", new Harness(120).bodyFrom(1, 2, 3), "Target.run();\n");
    }

    @Sentence(promise = 5, under = "Terms, types", says = "The RESULT is a TYPE or V (at first).")
    static void resultIsVAtFirst() {
        Harness h = new Harness(120).withParameters("I");
        Check.due("a new object's body", h.bodyFrom(1, 2), "Target.run(1);\n");
        h.returnedFrom(1, 2);
        Check.due("taken() by it", h.taken(), 1);
    }

    // Promise 2: type

    @Sentence(promise = 2, says = "Puts a character 0 .. 127 at the end of THE LINE: its length.")
    static void typeAnswersTheLength() {
        Harness h = new Harness(40);
        Check.due("type(0)", h.type(0), 1);
        Check.due("type(127)", h.type(127), 2);
        for (int n = 3; n <= 40; n++) {
            Check.due("type(10) as the character " + n, h.type(10), n);
            Check.due("count(1)", h.count(1), n);
        }
        String name = "abcdefghijklmnopqrstuvwxyzABCDEFGHIJKLMN";
        Harness named = new Harness(120);
        named.threw(name);
        Check.due("the order of 40 characters", named.onlyBody().contains("fail(\"" + name + "\")") ? 1 : 0, 1);
    }

    @Sentence(promise = 2, says = "Out of range: REFUSED;")
    static void otherCharactersAreRefused() {
        for (int c : new int[] {-1, -2, 128, 129, 255, 256, 256 + 'I', 65536 + 'I', MIN, MIN + 'I', MAX}) {
            Harness h = new Harness(40).typed("AB");
            Check.due("type(" + c + ")", h.type(c), -1);
            Check.due("count(1) after type(" + c + ")", h.count(1), 2);
        }
    }

    @Sentence(promise = 2, says = "40 there: FULL.")
    static void character41IsFull() {
        Harness h = new Harness(40).typed("x".repeat(39));
        Check.due("type() with 39 there", h.type('x'), 40);
        for (int c : new int[] {'x', 0, 127}) {
            Check.due("type(" + c + ") with 40 there", h.type(c), -2);
            Check.due("count(1) with 40 there", h.count(1), 40);
        }
        h.parameters();
        Check.due("type() when the 40 are gone", h.type('x'), 1);
    }

    @Sentence(promise = 2, says = "Out of range: REFUSED; 40 there: FULL.")
    static void outOfRangeIsToldBeforeFull() {
        Harness h = new Harness(40).typed("x".repeat(40));
        Check.due("type(128) with 40 there", h.type(128), -1);
        Check.due("type(-1) with 40 there", h.type(-1), -1);
    }

    @Sentence(promise = 2, under = "Terms, calls", says = "A refused call changes nothing,")
    static void refusedTypeChangesNothing() {
        Harness h = Trials.settled().typed("Name");
        String before = h.seen();
        h.type(-1);
        h.type(128);
        Check.due("the state after REFUSED", h.seen(), before);
        h.typed("x".repeat(36));
        before = h.seen();
        h.type('y');
        h.type(-1);
        Check.due("the state after FULL", h.seen(), before);
    }

    // Promise 3: fields

    @Sentence(promise = 3, says = "THE LINE, a row of TYPES, becomes the FIELDS of CLASS k 0 .. 3")
    static void fieldsAreEachClassesOwn() {
        Harness h = new Harness(120).withFields(0, "I").withFields(1, "ZZ").withFields(2, "J").withFields(3, "O2T");
        h.withParameters("O0O1O2O3");
        Check.due("objects of all CLASSES", h.bodyFrom(0, 5, 0, 1, 2, 0, 0, 7, 0, 0, 0, 8, 1, 'q'),
            "Target.run(new C0(5), new C1(true, false), new C2(7L), new C3(new C2(8L), \"q\"));\n");
        h.withFields(0, "B");
        Check.due("the FIELDS set anew", h.bodyFrom(0, 5, 0, 1, 2, 0, 0, 7, -1),
            "Target.run(new C0((byte) 5), new C1(true, false), new C2(7L), null);\n");
    }

    @Sentence(promise = 3, says = "(TESTS that were added stay as they are),")
    static void testsStayWhenFieldsChange() {
        Harness h = new Harness(120).withFields(0, "I").withParameters("O0");
        h.returnedFrom(0, 5);
        String before = h.emitted();
        h.withFields(0, "ZZ");
        Check.due("THE TEXT after other FIELDS", h.emitted(), before);
        Check.due("returned() from the same DATA", h.returned(), 1);
    }

    @Sentence(promise = 3, says = "and is empty then: how many.")
    static void fieldsEmptiesTheLine() {
        for (String row : new String[] {"", "I", "O0O1", "[[[O0IT", LONGEST_ROW}) {
            Harness h = new Harness(40).typed(row);
            Check.due("fields(3) of " + row, h.fields(3), row.replaceAll("\\[|[0-9]", "").length());
            Check.due("count(1) after it", h.count(1), 0);
            Check.due("fields(3) again", h.fields(3), 0);
        }
    }

    @Sentence(promise = 3, says = "k out of range: REFUSED (THE LINE stays).")
    static void otherClassesAreRefused() {
        for (int k : new int[] {-1, 4, 5, '0', 256, 65536, MIN, MAX}) {
            Harness h = new Harness(40).typed("IJ");
            Check.due("fields(" + k + ")", h.fields(k), -1);
            Check.due("count(1) after fields(" + k + ")", h.count(1), 2);
            Check.due("fields(3) of THE LINE that stayed", h.fields(3), 2);
        }
    }

    @Sentence(promise = 3, says = "k out of range: REFUSED (THE LINE stays). No such row: BAD")
    static void otherClassIsToldBeforeBad() {
        for (int k : new int[] {-1, 4}) {
            Harness h = new Harness(40).typed("?");
            Check.due("fields(" + k + ") of no row", h.fields(k), -1);
            Check.due("count(1) after it", h.count(1), 1);
        }
    }

    @Sentence(promise = 3, says = "No such row: BAD (THE LINE is empty then, too; so for the next two).")
    static void noRowOfFieldsIsBad() {
        for (String row : new String[] {"V", "IV", "IIIII", "i", "I I", " I", "I ", "I,J", "\0", "I\u007F", "I\n", "?".repeat(40)}) {
            Harness h = new Harness(40).typed(row);
            Check.due("fields(0) of " + row, h.fields(0), -3);
            Check.due("count(1) after it", h.count(1), 0);
            Check.due("type() after it", h.type('I'), 1);
        }
    }

    @Sentence(promise = 3, under = "Terms, calls", says = "A refused call changes nothing,")
    static void refusedFieldsChangeNothing() {
        Harness h = Trials.settled();
        String before = h.seen();
        for (int k = 0; k <= 3; k++) {
            Check.due("fields(" + k + ") of IZX", h.typed("IZX").fields(k), -3);
            Check.due("the state after BAD", h.seen(), before);
        }
        h.typed("I");
        before = h.seen();
        h.fields(4);
        Check.due("the state after REFUSED", h.seen(), before);
    }

    // Promise 4: parameters

    @Sentence(promise = 4, says = "THE LINE, a row of TYPES, becomes the PARAMETERS, and is empty then: how many.")
    static void parametersEmptiesTheLine() {
        for (String row : new String[] {"", "I", "O0O1", "[[[O0IT", LONGEST_ROW}) {
            Harness h = new Harness(40).typed(row);
            Check.due("parameters() of " + row, h.parameters(), row.replaceAll("\\[|[0-9]", "").length());
            Check.due("count(1) after it", h.count(1), 0);
            Check.due("parameters() again", h.parameters(), 0);
        }
        Harness h = new Harness(120).withParameters("IZ").withParameters("ZI[J");
        Check.due("the last PARAMETERS count", h.bodyFrom(1, 2, -1), "Target.run(true, 2, null);\n");
    }

    @Sentence(promise = 4, says = "BAD as above.")
    static void noRowOfParametersIsBad() {
        for (String row : new String[] {"V", "IV", "IIIII", "i", "I I", " I", "I ", "I,J", "\0", "I\u007F", "I\n", "?".repeat(40)}) {
            Harness h = new Harness(40).typed(row);
            Check.due("parameters() of " + row, h.parameters(), -3);
            Check.due("count(1) after it", h.count(1), 0);
            Check.due("type() after it", h.type('I'), 1);
        }
    }

    @Sentence(promise = 4, under = "Terms, calls", says = "A refused call changes nothing,")
    static void refusedParametersChangeNothing() {
        Harness h = Trials.settled();
        String before = h.seen();
        Check.due("parameters() of IZ[", h.typed("IZ[").parameters(), -3);
        Check.due("the state after BAD", h.seen(), before);
    }

    // Promise 5: result

    @Sentence(promise = 5, says = "THE LINE, one TYPE or V, becomes the RESULT, and is empty then: 0.")
    static void resultTakesOneTypeOrV() {
        for (String type : new String[] {"V", "Z", "B", "C", "S", "I", "J", "F", "D", "T", "O0", "O3", "[I", "[[T", "[[[O2"}) {
            Harness h = new Harness(40).typed(type);
            Check.due("result() of " + type, h.result(), 0);
            Check.due("count(1) after it", h.count(1), 0);
        }
        Harness h = new Harness(120).withResult("I");
        Check.due("the body with I", h.bodyFrom(4), "assertEquals(4, Target.run());\n");
        h.withResult("V");
        Check.due("the body with V again", h.bodyFrom(4), "Target.run();\n");
    }

    @Sentence(promise = 5, says = "Else BAD.")
    static void noTypeAndNoVIsBad() {
        String[] others = {"", "VV", "[V", "II", "IV", "VI", "v", "O", "O4", "[", "[[[[I", "I ", " V", "V ", "X", "O0O1", "O01",
            "\0", "V\0", "V".repeat(40)};
        for (String other : others) {
            Harness h = new Harness(40).typed(other);
            Check.due("result() of " + other, h.result(), -3);
            Check.due("count(1) after it", h.count(1), 0);
            Check.due("type() after it", h.type('I'), 1);
        }
    }

    @Sentence(promise = 5, under = "Terms, calls", says = "A refused call changes nothing,")
    static void refusedResultChangesNothing() {
        Harness h = Trials.settled();
        String before = h.seen();
        Check.due("result() of nothing", h.result(), -3);
        Check.due("result() of IJ", h.typed("IJ").result(), -3);
        Check.due("the state after BAD", h.seen(), before);
    }

    @Sentence(promise = {3, 4, 5}, under = "Terms, calls", says = "but that THE LINE becomes empty where it is said.")
    static void badEmptiesTheLineAndRefusedDoesNot() {
        Harness h = new Harness(40).typed("?");
        h.fields(4);
        h.returned();
        h.type(128);
        Check.due("count(1) after calls that leave THE LINE", h.count(1), 1);
        h.fields(3);
        Check.due("count(1) after a BAD fields()", h.count(1), 0);
        h.typed("?").parameters();
        Check.due("count(1) after a BAD parameters()", h.count(1), 0);
        h.typed("?").result();
        Check.due("count(1) after a BAD result()", h.count(1), 0);
    }
}
