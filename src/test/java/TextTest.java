/** Promises 12 to 15: emit, at, line and count. */
public final class TextTest {
    public static void main(String[] args) {
        emptySuite();
        severalTests();
        textIsMadeByEmitAlone();
        textCanShrink();
        numbersOfTwoDigits();
        atRefusesOtherPlaces();
        lineFindsEachBeginning();
        countOfEachKind();
        countRefusesOtherKinds();
        theLargestText();
        Check.end();
    }

    private static void emptySuite() {
        Harness h = new Harness(40);
        Check.due("emit() of no TESTS", h.emitter.emit(), 28);
        Check.due("THE TEXT of no TESTS", h.text(), "public class TargetTest {\n}\n");
        Check.due("its lines", h.emitter.count(4), 2);
        Check.due("its longest line", h.emitter.count(5), 25);
    }

    private static Harness threeTests() {
        Harness h = new Harness(120).parameters("I");
        h.returned(1);
        h.threw("Oops");
        h.result("Z");
        h.returned(2, 3);
        return h;
    }

    private static void severalTests() {
        Check.due("THE TEXT of three TESTS", threeTests().text(), "public class TargetTest {\n"
            + "    @Test\n    public void test0() {\n        Target.run(1);\n    }\n\n"
            + "    @Test\n    public void test1() {\n        try {\n            Target.run(1);\n            fail(\"Oops\");\n"
            + "        } catch (Oops e) {\n        }\n    }\n\n"
            + "    @Test\n    public void test2() {\n        assertTrue(Target.run(2));\n    }\n}\n");
    }

    private static void textIsMadeByEmitAlone() {
        Harness h = new Harness(120).parameters("I");
        h.returned(1);
        Check.due("count(3) before emit()", h.emitter.count(3), 0);
        int length = h.emitter.emit();
        Check.due("count(3) after emit()", h.emitter.count(3), length);
        h.returned(2);
        h.emitter.drop();
        Check.due("count(3) after other calls", h.emitter.count(3), length);
        Check.due("at(length - 1) after other calls", h.emitter.at(length - 1), '\n');
        Check.due("line(5) after other calls", h.emitter.line(5), length - 2);
    }

    private static void textCanShrink() {
        Harness h = threeTests();
        int length = h.emitter.emit();
        h.emitter.drop();
        Check.due("emit() after drop()", h.emitter.emit(), 28);
        Check.due("count(4) after drop()", h.emitter.count(4), 2);
        Check.due("count(5) after drop()", h.emitter.count(5), 25);
        Check.due("at(28)", h.emitter.at(28), -1);
        Check.due("at the former end", h.emitter.at(length - 1), -1);
        Check.due("line(2)", h.emitter.line(2), -1);
    }

    private static void numbersOfTwoDigits() {
        Harness h = new Harness(120).parameters("I");
        StringBuilder want = new StringBuilder("public class TargetTest {\n");
        for (int i = 0; i < 20; i++) {
            h.returned(i);
            want.append(i > 0 ? "\n" : "").append("    @Test\n    public void test").append(i).append("() {\n        Target.run(")
                .append(i).append(");\n    }\n");
        }
        Check.due("THE TEXT of 20 TESTS", h.text(), want.append("}\n").toString());
    }

    private static void atRefusesOtherPlaces() {
        Harness h = threeTests();
        int length = h.emitter.emit();
        Check.due("at(0)", h.emitter.at(0), 'p');
        Check.due("at(length - 1)", h.emitter.at(length - 1), '\n');
        for (int i : new int[] {-1, length, length + 1, Integer.MIN_VALUE, Integer.MAX_VALUE}) {
            Check.due("at(" + i + ")", h.emitter.at(i), -1);
        }
    }

    private static void lineFindsEachBeginning() {
        Harness h = threeTests();
        String text = h.text();
        int start = 0;
        int lines = text.split("\n", -1).length - 1;
        for (int k = 0; k < lines; k++) {
            Check.due("line(" + k + ")", h.emitter.line(k), start);
            start = text.indexOf('\n', start) + 1;
        }
        for (int k : new int[] {-1, lines, lines + 1, Integer.MIN_VALUE, Integer.MAX_VALUE}) {
            Check.due("line(" + k + ")", h.emitter.line(k), -1);
        }
    }

    private static void countOfEachKind() {
        Harness h = new Harness(40).parameters("[I[I");
        h.returned(3, 1, 2, 3, 1, 9);
        h.threw("E");
        h.emitter.emit();
        h.typed("abcde");
        String text = "public class TargetTest {\n"
            + "    @Test\n    public void test0() {\n        Target.run(new int[] {1, 2, 3},\n                new int[] {9});\n    }\n\n"
            + "    @Test\n    public void test1() {\n        try {\n            Target.run(new int[] {1, 2,\n"
            + "                    3}, new int[] {9});\n            fail(\"E\");\n        } catch (E e) {\n        }\n    }\n}\n";
        Check.due("THE TEXT", h.text(), text);
        int[] want = {2, 5, 6, text.length(), 17, 39, 2, 1};
        for (int what = 0; what <= 7; what++) {
            Check.due("count(" + what + ")", h.emitter.count(what), want[what]);
        }
        h.emitter.emit();
        Check.due("count(6) after another emit()", h.emitter.count(6), 2);
    }

    private static void countRefusesOtherKinds() {
        Harness h = threeTests();
        for (int what : new int[] {-1, 8, 9, Integer.MIN_VALUE, Integer.MAX_VALUE}) {
            Check.due("count(" + what + ")", h.emitter.count(what), -1);
        }
    }

    /** Twenty bodies of up to 300 characters, all broken to the least width. */
    private static void theLargestText() {
        Harness h = new Harness(40).parameters("[[T[[T[[T");
        for (int i = 0; i < 20; i++) {
            h.data(3, 3, 1, 'a' + i, -1, -1, 3, -1, -1, -1, 3, -1, -1, -1, 3, 3, -1, -1, -1, 3, -1, -1, -1, 3, -1, -1, -1,
                2, 3, -1, -1, -1, 1);
            Check.due("the TEST " + i, h.threw("E".repeat(i % 10 + 1)), i);
        }
        String text = h.text();
        String[] lines = text.split("\n", -1);
        Check.due("count(3)", h.emitter.count(3), text.length());
        Check.due("count(4)", h.emitter.count(4), lines.length - 1);
        Check.due("count(6)", h.emitter.count(6), lines.length - 1 - (2 + 20 * 9 - 1));
        for (int k = 0, start = 0; k < lines.length - 1; k++) {
            Check.due("line(" + k + ")", h.emitter.line(k), start);
            start += lines[k].length() + 1;
        }
    }
}
