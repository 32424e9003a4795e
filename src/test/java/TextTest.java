/** Promises 12 to 15: emit, at, line and count, with the terms of THE TEXT that they speak of. */
public final class TextTest {
    private static final int MIN = Integer.MIN_VALUE;
    private static final int MAX = Integer.MAX_VALUE;
    private static final String NO_TESTS = "public class TargetTest {\n}\n";

    public static void main(String[] args) {
        Check.sentences(TextTest.class);
    }

    /** Three TESTS, emitted. */
    private static Harness threeTests() {
        Harness h = new Harness(120).withParameters("I");
        h.returnedFrom(1);
        h.threw("Oops");
        h.withResult("Z").returnedFrom(2, 3);
        h.emit();
        return h;
    }

    private static final String THREE_TESTS = "public class TargetTest {\n"
        + "    @Test\n    public void test0() {\n        Target.run(1);\n    }\n\n"
        + "    @Test\n    public void test1() {\n        try {\n            Target.run(1);\n            fail(\"Oops\");\n"
        + "        } catch (Oops e) {\n        }\n    }\n\n"
        + "    @Test\n    public void test2() {\n        assertTrue(Target.run(2));\n    }\n}\n";

    /** Twenty TESTS whose CALLS are broken to the least width as often as they can be, emitted. */
    private static Harness largest() {
        int[] row = new int[40];
        for (int i = 0; i < 39; i++) {
            boolean isLength = i % 13 == 0 || i % 13 % 4 == 1;
            row[i + 1] = isLength ? 3 : 1000 + i;
        }
        Harness h = new Harness(40).withParameters("I[[I[[I[[I").withData(row);
        for (int i = 0; i < 20; i++) {
            h.threw("E".repeat(i % 10) + (char) ('A' + i));
        }
        h.emit();
        return h;
    }

    private static int[] beginnings(String text) {
        int lines = (int) text.chars().filter(c -> c == '\n').count();
        int[] begins = new int[lines];
        for (int k = 1; k < lines; k++) {
            begins[k] = text.indexOf('\n', begins[k - 1]) + 1;
        }
        return begins;
    }

    // Terms

    @Sentence(promise = 12, under = "Terms, the text", says = "THE TEXT: \"public class TargetTest {\",")
    static void textOfNoTests() {
        Check.due("THE TEXT of no TESTS", new Harness(40).emitted(), NO_TESTS);
        Check.due("THE TEXT of three TESTS", threeTests().text(), THREE_TESTS);
    }

    @Sentence(promise = 12, under = "Terms, the text",
        says = "then for each TEST, numbered from 0: \"    @Test\", \"    public void test\" number \"() {\",")
    static void numbersGoFrom0To19() {
        Harness h = new Harness(120).withParameters("I");
        StringBuilder want = new StringBuilder("public class TargetTest {\n");
        for (int i = 0; i < 20; i++) {
            h.returnedFrom(i);
            want.append(i > 0 ? "\n" : "").append("    @Test\n    public void test").append(i).append("() {\n        Target.run(")
                .append(i).append(");\n    }\n");
        }
        Check.due("THE TEXT of 20 TESTS", h.emitted(), want.append("}\n").toString());
        h.drop();
        h.returnedFrom(99);
        Check.due("THE TEXT of one TEST after drop()", h.emitted().contains("    public void test0() {\n") ? 1 : 0, 1);
    }

    @Sentence(promise = 12, under = "Terms, the text", says = "its body's lines, each after 8 blanks, \"    }\";")
    static void bodyLinesAreAfter8Blanks() {
        Harness h = new Harness(120);
        h.threw("E");
        Check.due("THE TEXT of a body of five lines", h.emitted(), "public class TargetTest {\n    @Test\n"
            + "    public void test0() {\n        try {\n            Target.run();\n            fail(\"E\");\n"
            + "        } catch (E e) {\n        }\n    }\n}\n");
    }

    @Sentence(promise = 12, under = "Terms, the text", says = "between two TESTS an empty line;")
    static void emptyLinesAreBetweenTestsAlone() {
        Harness h = new Harness(120).withParameters("I");
        for (int size = 0; size <= 3; size++) {
            String text = h.emitted();
            Check.due("empty lines of " + size + " TESTS", text.split("\n\n", -1).length - 1, Math.max(0, size - 1));
            Check.due("those before a TEST", text.split("    }\n\n    @Test\n", -1).length - 1, Math.max(0, size - 1));
            h.returnedFrom(size);
        }
    }

    @Sentence(promise = 12, under = "Terms, the text", says = "at last \"}\".")
    static void lastLineIsABrace() {
        for (Harness h : new Harness[] {new Harness(40), threeTests(), largest()}) {
            String text = h.emitted();
            Check.due("the last line", text.substring(text.lastIndexOf('\n', text.length() - 2)), "\n}\n");
        }
    }

    @Sentence(promise = 12, under = "Terms, the text", says = "Each line ends with the character 10.")
    static void lastCharacterIs10() {
        Harness none = new Harness(40);
        Check.due("the last of no TESTS", none.at(none.emit() - 1), 10);
        Harness h = threeTests();
        Check.due("the last of three TESTS", h.at(h.emit() - 1), 10);
        for (int k = 1; k < h.count(4); k++) {
            Check.due("the character before line " + k, h.at(h.line(k) - 1), 10);
        }
    }

    // Promise 12: emit

    @Sentence(promise = 12, says = "THE TEXT is made of the TESTS as they are: its length.")
    static void emitAnswersTheLength() {
        Check.due("emit() of no TESTS", new Harness(40).emit(), NO_TESTS.length());
        Check.due("emit() of three TESTS", threeTests().emit(), THREE_TESTS.length());
        Harness large = largest();
        Check.due("emit() of broken lines", large.emit(), large.text().length());
    }

    @Sentence(promise = 12, says = "THE TEXT is made of the TESTS as they are:")
    static void textIsMadeByEmitAlone() {
        Harness h = new Harness(120).withParameters("I");
        h.returnedFrom(1);
        Check.due("count(3) before emit()", h.count(3), 0);
        h.emit();
        String before = h.text();
        h.returnedFrom(2);
        h.threw("E");
        Check.due("THE TEXT after more TESTS", h.text(), before);
        h.drop();
        h.withParameters("").withFields(0, "I").withResult("I").clear();
        Check.due("THE TEXT after all other calls", h.text(), before);
        Check.due("emit() then", h.emit(), NO_TESTS.length());
    }

    @Sentence(promise = 12, says = "THE TEXT is made of the TESTS as they are:")
    static void textIsMadeAnewEachTime() {
        Harness h = threeTests();
        Check.due("emit() again", h.emit(), THREE_TESTS.length());
        Check.due("THE TEXT after it", h.text(), THREE_TESTS);
        Harness large = largest();
        int length = large.count(3);
        int lines = large.count(4);
        large.drop();
        Check.due("emit() after drop()", large.emit(), NO_TESTS.length());
        Check.due("THE TEXT after it", large.text(), NO_TESTS);
        Check.due("count(4) after it", large.count(4), 2);
        Check.due("count(5) after it", large.count(5), 25);
        Check.due("count(6) after it", large.count(6), 0);
        Check.due("at the former end", large.at(length - 1), -1);
        Check.due("the former last line", large.line(lines - 1), -1);
    }

    // Promise 13: at

    @Sentence(promise = 13, says = "Character i of THE TEXT;")
    static void atTellsEachCharacter() {
        Harness h = threeTests();
        for (int i = 0; i < THREE_TESTS.length(); i++) {
            Check.due("at(" + i + ")", h.at(i), THREE_TESTS.charAt(i));
        }
    }

    @Sentence(promise = 13, says = "REFUSED if there is none.")
    static void atRefusesOtherPlaces() {
        Harness h = threeTests();
        int length = h.count(3);
        for (int i : new int[] {-1, -2, length, length + 1, 65536, MIN, MAX}) {
            Check.due("at(" + i + ")", h.at(i), -1);
        }
        Check.due("at(0) before emit()", new Harness(40).at(0), -1);
        Check.due("the last before the end", h.at(length - 1), '\n');
    }

    // Promise 14: line

    @Sentence(promise = 14, says = "The place in THE TEXT where line k, from 0, begins;")
    static void lineTellsEachBeginning() {
        for (Harness h : new Harness[] {threeTests(), largest()}) {
            int[] begins = beginnings(h.text());
            for (int k = 0; k < begins.length; k++) {
                Check.due("line(" + k + ")", h.copy().line(k), begins[k]);
            }
        }
        Harness none = new Harness(40);
        none.emit();
        Check.due("line(0) of no TESTS", none.line(0), 0);
        Check.due("line(1) of no TESTS", none.line(1), 26);
    }

    @Sentence(promise = 14, says = "REFUSED if there is none.")
    static void lineRefusesOtherLines() {
        Harness h = threeTests();
        int lines = beginnings(THREE_TESTS).length;
        for (int k : new int[] {-1, -2, lines, lines + 1, 65536, MIN, MAX}) {
            Check.due("line(" + k + ")", h.line(k), -1);
        }
        Check.due("line(0) before emit()", new Harness(40).line(0), -1);
        Check.due("the last before the end", h.line(lines - 1), THREE_TESTS.length() - 2);
    }

    // Promise 15: count

    /** Two TESTS with a line broken in each, emitted, and a third that is not. */
    private static Harness counted() {
        Harness h = new Harness(40).withParameters("[I[I");
        h.returnedFrom(3, 1, 2, 3, 1, 9);
        h.threw("E");
        h.emit();
        h.withParameters("").threw("F");
        return h.typed("abcde");
    }

    private static final String COUNTED = "public class TargetTest {\n"
        + "    @Test\n    public void test0() {\n        Target.run(new int[] {1, 2, 3},\n                new int[] {9});\n    }\n\n"
        + "    @Test\n    public void test1() {\n        try {\n            Target.run(new int[] {1, 2,\n"
        + "                    3}, new int[] {9});\n            fail(\"E\");\n        } catch (E e) {\n        }\n    }\n}\n";

    @Sentence(promise = 15, says = "0: TESTS;")
    static void count0() {
        Check.due("count(0) of none", new Harness(40).count(0), 0);
        Check.due("count(0) of 3", counted().count(0), 3);
        Check.due("count(0) of 20", Trials.full().count(0), 20);
    }

    @Sentence(promise = 15, says = "1: characters in THE LINE;")
    static void count1() {
        Check.due("count(1) of none", new Harness(40).count(1), 0);
        Check.due("count(1) of 5", counted().count(1), 5);
        Check.due("count(1) of 40", new Harness(40).typed("x".repeat(41)).count(1), 40);
    }

    @Sentence(promise = 15, says = "2: DATA;")
    static void count2() {
        Check.due("count(2) of none", new Harness(40).count(2), 0);
        Check.due("count(2) of 6", counted().count(2), 6);
        Check.due("count(2) of 60", new Harness(40).withData(new int[61]).count(2), 60);
    }

    @Sentence(promise = 15, says = "3: length of THE TEXT;")
    static void count3() {
        Check.due("THE TEXT", counted().text(), COUNTED);
        Check.due("count(3) before emit()", new Harness(40).count(3), 0);
        Check.due("count(3)", counted().count(3), COUNTED.length());
    }

    @Sentence(promise = 15, says = "4: its lines;")
    static void count4() {
        Check.due("count(4) before emit()", new Harness(40).count(4), 0);
        Check.due("count(4)", counted().count(4), 17);
        Harness large = largest();
        Check.due("count(4) of the largest text", large.count(4), beginnings(large.text()).length);
    }

    @Sentence(promise = 15, says = "5: the length of its longest line;")
    static void count5() {
        Check.due("count(5) before emit()", new Harness(40).count(5), 0);
        Check.due("count(5)", counted().count(5), "        Target.run(new int[] {1, 2, 3},".length());
        Harness none = new Harness(40);
        none.emit();
        Check.due("count(5) of no TESTS", none.count(5), "public class TargetTest {".length());
        Harness named = new Harness(40);
        named.threw("x".repeat(40));
        named.emit();
        Check.due("count(5) of a line above the width", named.count(5),
            ("        } catch (" + "x".repeat(40) + " e) {").length());
    }

    @Sentence(promise = 15, says = "6: lines that BREAKING added in it;")
    static void count6() {
        Check.due("count(6) before emit()", new Harness(40).count(6), 0);
        Check.due("count(6)", counted().count(6), 2);
        Harness again = counted();
        again.emit();
        Check.due("count(6) after another emit()", again.count(6), 2);
        Harness large = largest();
        int unbroken = 2 + 20 * 8 + 19;
        Check.due("count(6) of the largest text", large.count(6), 20 * 12);
        Check.due("its other lines", large.count(4) - large.count(6), unbroken);
        Check.due("count(6) without long lines", threeTests().count(6), 0);
    }

    @Sentence(promise = 15, says = "7: TESTS that came from threw.")
    static void count7() {
        Check.due("count(7) of none", new Harness(40).count(7), 0);
        Check.due("count(7) of 2", counted().count(7), 2);
        Check.due("count(7) of 10", Trials.full().count(7), 10);
        Check.due("count(7) of 20", largest().count(7), 20);
        Harness h = new Harness(40);
        h.returned();
        Check.due("count(7) of one that returned", h.count(7), 0);
    }

    @Sentence(promise = 15, says = "Else REFUSED.")
    static void otherCountsAreRefused() {
        for (int what : new int[] {-1, -2, 8, 9, '0', 256, 65536, MIN, MAX}) {
            Check.due("count(" + what + ")", counted().count(what), -1);
            Check.due("count(" + what + ") of a new object", new Harness(40).count(what), -1);
        }
    }

    @Sentence(promise = {10, 13, 14, 15}, under = "Terms, calls", says = "A refused call changes nothing,")
    static void refusedQuestionsChangeNothing() {
        Harness h = Trials.settled().typed("Name");
        String before = h.seen();
        int taken = h.copy().taken();
        h.at(-1);
        h.at(MAX);
        h.line(-1);
        h.line(MAX);
        h.count(-1);
        h.count(8);
        Check.due("the state after REFUSED", h.seen(), before);
        Check.due("taken() after REFUSED", h.taken(), taken);
        Harness fresh = new Harness(40);
        before = fresh.seen();
        Check.due("taken() of a new object", fresh.taken(), -1);
        Check.due("the state after REFUSED from taken()", fresh.seen(), before);
    }
}
