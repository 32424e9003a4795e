/** Promises 2 to 5: type, fields, parameters and result, and what a row of TYPES is. */
public final class TypedTextTest {
    private static final String[] ROWS = {"", "Z", "B", "C", "S", "I", "J", "F", "D", "T", "O0", "O3", "[I", "[[O1",
        "[[[D", "ZBCS", "IJFD", "TO0O1O2", "[[[O0[[[O1[[[O2[[[O3", "II[[[I[[I"};
    private static final String[] NO_ROWS = {"V", "IV", "O", "O4", "O/", "O:", "OI", "[", "I[", "[[[", "[[[[I", "[[[[",
        "[V", "IIIII", "ZBCSI", "i", "z", "A", "I I", " I", "I ", "I,", "0", "1I", "O0O", "O00", "L", "\0", "I\u007F",
        "]", "[]I", "[[[O0[[[O1[[[O2[[[O3[", "IIIIO"};

    public static void main(String[] args) {
        typeAnswersTheLength();
        typeRefusesBeforeItIsFull();
        rowsAreTaken();
        otherRowsAreBad();
        lettersAlone();
        badLeavesTheFormerRow();
        fieldsRefusesOtherClasses();
        fieldsAreEachClassesOwn();
        testsStayWhenFieldsChange();
        resultTakesOneType();
        badLeavesTheFormerResult();
        Check.end();
    }

    private static void typeAnswersTheLength() {
        TestEmitter x = new TestEmitter(40);
        int[] refused = {-1, 128, 255, 256 + 'I', Integer.MIN_VALUE, Integer.MAX_VALUE};
        for (int c : refused) {
            Check.due("type(" + c + ")", x.type(c), -1);
        }
        Check.due("count(1) after refused characters", x.count(1), 0);
        Check.due("type(0)", x.type(0), 1);
        Check.due("type(127)", x.type(127), 2);
        for (int n = 3; n <= 40; n++) {
            Check.due("type(10) as the character " + n, x.type(10), n);
            Check.due("count(1)", x.count(1), n);
        }
    }

    private static void typeRefusesBeforeItIsFull() {
        Harness h = new Harness(40).typed("I".repeat(40));
        Check.due("type('I') with 40 there", h.emitter.type('I'), -2);
        Check.due("type(128) with 40 there", h.emitter.type(128), -1);
        Check.due("type(-1) with 40 there", h.emitter.type(-1), -1);
        Check.due("count(1) with 40 there", h.emitter.count(1), 40);
        Check.due("parameters() of 40 letters", h.emitter.parameters(), -3);
        Check.due("count(1) behind them", h.emitter.count(1), 0);
        Check.due("type('I') behind them", h.emitter.type('I'), 1);
    }

    private static void rowsAreTaken() {
        for (String row : ROWS) {
            int size = row.replaceAll("\\[|[0-9]", "").length();
            Harness h = new Harness(40).typed(row);
            Check.due("parameters() of " + row, h.emitter.parameters(), size);
            Check.due("count(1) after parameters() of " + row, h.emitter.count(1), 0);
            h.typed(row);
            Check.due("fields(2) of " + row, h.emitter.fields(2), size);
            Check.due("count(1) after fields(2) of " + row, h.emitter.count(1), 0);
        }
    }

    private static void otherRowsAreBad() {
        for (String row : NO_ROWS) {
            Harness h = new Harness(40).typed(row);
            Check.due("parameters() of " + row, h.emitter.parameters(), -3);
            Check.due("count(1) after parameters() of " + row, h.emitter.count(1), 0);
            h.typed(row);
            Check.due("fields(0) of " + row, h.emitter.fields(0), -3);
            Check.due("count(1) after fields(0) of " + row, h.emitter.count(1), 0);
        }
    }

    private static void lettersAlone() {
        for (int c = 0; c <= 127; c++) {
            TestEmitter x = new TestEmitter(40);
            x.type(c);
            Check.due("parameters() of the character " + c, x.parameters(), "ZBCSIJFDT".indexOf(c) >= 0 ? 1 : -3);
            x.type(c);
            Check.due("result() of the character " + c, x.result(), "ZBCSIJFDTV".indexOf(c) >= 0 ? 0 : -3);
            x.type('O');
            x.type(c);
            Check.due("fields(0) of O and the character " + c, x.fields(0), c >= '0' && c <= '3' ? 1 : -3);
        }
    }

    private static void badLeavesTheFormerRow() {
        Harness h = new Harness(120).fields(1, "IZ").parameters("O1C");
        h.fields(1, "IZX").parameters("O1C[");
        h.returned(0, 7, 1, 'x');
        Check.due("the body after BAD rows", h.onlyBody(), "Target.run(new C1(7, true), 'x');\n");
        h.parameters("");
        h.emitter.drop();
        h.returned();
        Check.due("the body after an empty row", h.onlyBody(), "Target.run();\n");
    }

    private static void fieldsRefusesOtherClasses() {
        for (int k : new int[] {-1, 4, Integer.MIN_VALUE, Integer.MAX_VALUE, '0'}) {
            Harness good = new Harness(40).typed("IJ");
            Check.due("fields(" + k + ")", good.emitter.fields(k), -1);
            Check.due("count(1) after fields(" + k + ")", good.emitter.count(1), 2);
            Check.due("fields(3) after it", good.emitter.fields(3), 2);
            Harness bad = new Harness(40).typed("?");
            Check.due("fields(" + k + ") of no row", bad.emitter.fields(k), -1);
            Check.due("count(1) after it", bad.emitter.count(1), 1);
        }
    }

    private static void fieldsAreEachClassesOwn() {
        Harness h = new Harness(120).fields(0, "I").fields(1, "ZZ").fields(2, "").fields(3, "O2T");
        h.parameters("O0O1O2O3");
        h.returned(0, 5, 0, 1, 2, 0, 0, 0, 1, 'q');
        Check.due("objects of all classes", h.onlyBody(),
            "Target.run(new C0(5), new C1(true, false), new C2(), new C3(new C2(), \"q\"));\n");
    }

    private static void testsStayWhenFieldsChange() {
        Harness h = new Harness(120).fields(0, "I").parameters("O0");
        h.returned(0, 5);
        h.fields(0, "ZZ").parameters("I").result("J");
        h.data(9, 9);
        Check.due("the body after all was changed", h.onlyBody(), "Target.run(new C0(5));\n");
    }

    private static void resultTakesOneType() {
        String[] good = {"V", "Z", "B", "C", "S", "I", "J", "F", "D", "T", "O0", "O3", "[I", "[[T", "[[[O2"};
        String[] bad = {"", "VV", "[V", "II", "IV", "VI", "v", "O", "O4", "[", "[[[[I", "I ", " V", "X", "O0O1", "O01"};
        for (String s : good) {
            Harness h = new Harness(40).typed(s);
            Check.due("result() of " + s, h.emitter.result(), 0);
            Check.due("count(1) after result() of " + s, h.emitter.count(1), 0);
        }
        for (String s : bad) {
            Harness h = new Harness(40).typed(s);
            Check.due("result() of " + s, h.emitter.result(), -3);
            Check.due("count(1) after result() of " + s, h.emitter.count(1), 0);
        }
    }

    private static void badLeavesTheFormerResult() {
        Harness h = new Harness(120).result("I").result("II");
        h.returned(4);
        Check.due("the body after a BAD result", h.onlyBody(), "assertEquals(4, Target.run());\n");
        h.result("V");
        h.emitter.drop();
        h.returned(4);
        Check.due("the body after V", h.onlyBody(), "Target.run();\n");
    }
}
