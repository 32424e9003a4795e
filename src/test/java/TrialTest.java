/** Promises 8, 9 and 11: returned, threw and drop, with the terms of tests that they speak of. */
public final class TrialTest {
    // "try {", 2 times 4 blanks, fail, catch, "}" and four more line ends, with a NAME of one letter twice.
    private static final int MORE_IN_THREW = 43;

    public static void main(String[] args) {
        Check.sentences(TrialTest.class);
    }

    private static void due(String parameters, String result, String want, int... row) {
        Check.due("the body of " + parameters + " to " + result, Harness.bodyOf(parameters, result, row), want + "\n");
    }

    private static String threwBody(String call, String name) {
        return "try {\n    " + call + ";\n    fail(\"" + name + "\");\n} catch (" + name + " e) {\n}\n";
    }

    // Terms

    @Sentence(promise = {8, 9}, under = "Terms, tests", says = "A TEST has a body, which is made when it is added.")
    static void bodyIsMadeWhenAdded() {
        Harness h = new Harness(120).withFields(0, "I").withParameters("O0").withResult("Z");
        h.returnedFrom(0, 5, 1);
        h.threw("Oops");
        String before = h.emitted();
        h.withFields(0, "ZZ").withParameters("I").withResult("J").withData(9, 9).typed("Other");
        Check.due("THE TEXT after all was changed", h.emitted(), before);
        Harness two = new Harness(120).withParameters("I");
        two.returnedFrom(1);
        two.returnedFrom(2);
        String text = two.emitted();
        Check.due("the first body after the second", text.contains("        Target.run(1);\n") ? 1 : 0, 1);
        Check.due("the second body", text.contains("        Target.run(2);\n") ? 1 : 0, 1);
    }

    @Sentence(promise = {8, 9}, under = "Terms, tests",
        says = "CALL: \"Target.run(\", the arguments' LITERALS built from the DATA in the order of the PARAMETERS, "
            + "separated as above, \")\".")
    static void callHasTheArgumentsInOrder() {
        due("", "V", "Target.run();", 1);
        due("I", "V", "Target.run(5);", 5, 6);
        due("ITZC", "V", "Target.run(1, null, true, 'c');", 1, -1, 1, 'c', 2, 3);
        Harness h = new Harness(120).withParameters("ITZC").withData(1, -1, 1, 'c', 2, 3);
        h.threw("E");
        Check.due("the body of threw()", h.onlyBody(), threwBody("Target.run(1, null, true, 'c')", "E"));
    }

    @Sentence(promise = 8, under = "Terms, tests", says = "Then the value of the RESULT is built from what follows in the DATA.")
    static void resultFollowsTheArguments() {
        due("TI", "I", "assertEquals(4, Target.run(\"a\", 3));", 1, 'a', 3, 4, 5);
        due("", "I", "assertEquals(1, Target.run());", 1, 2);
        due("I", "J", "assertEquals(8589934595L, Target.run(1));", 1, 2, 3);
        due("I", "J", "assertEquals(8589934592L, Target.run(1));", 1, 2);
        due("I", "I", "assertEquals(0, Target.run(1));", 1);
    }

    @Sentence(promise = 8, under = "Terms, tests", says = "returned: RESULT V: \"CALL;\".")
    static void returnedNothing() {
        due("", "V", "Target.run();");
        due("I", "V", "Target.run(5);", 5, 6);
    }

    @Sentence(promise = 8, under = "Terms, tests", says = "Z: \"assertTrue(CALL);\" or \"assertFalse(CALL);\".")
    static void returnedBooleans() {
        due("I", "Z", "assertTrue(Target.run(5));", 5, 7);
        due("I", "Z", "assertTrue(Target.run(5));", 5, -1);
        due("I", "Z", "assertFalse(Target.run(5));", 5, 6);
        due("I", "Z", "assertFalse(Target.run(5));", 5);
    }

    @Sentence(promise = 8, under = "Terms, tests", says = "a value null: \"assertNull(CALL);\".")
    static void returnedNulls() {
        for (String type : new String[] {"T", "O0", "O3", "[F", "[Z", "[[[Z", "[[O1"}) {
            due("I", type, "assertNull(Target.run(3));", 3, -1);
        }
        due("", "T", "assertEquals(\"null\", Target.run());", 4, 'n', 'u', 'l', 'l');
        due("", "[T", "assertArrayEquals(new String[] {null}, Target.run());", 1, -1);
    }

    @Sentence(promise = 8, under = "Terms, tests",
        says = "F, D: \"assertEquals(LITERAL, CALL, 0.0f);\" or \", 0.0);\".")
    static void returnedPointNumbers() {
        due("I", "F", "assertEquals(0.5f, Target.run(5), 0.0f);", 5, 4);
        due("I", "D", "assertEquals(0.5, Target.run(5), 0.0);", 5, 4);
        due("", "F", "assertEquals(0.0f, Target.run(), 0.0f);");
        due("", "D", "assertEquals(0.0, Target.run(), 0.0);");
    }

    @Sentence(promise = 8, under = "Terms, tests", says = "an array: \"assertArrayEquals(LITERAL, CALL);\".")
    static void returnedArrays() {
        due("", "[I", "assertArrayEquals(new int[] {7}, Target.run());", 1, 7);
        due("", "[I", "assertArrayEquals(new int[] {}, Target.run());");
        due("", "[F", "assertArrayEquals(new float[] {0.5f}, Target.run());", 1, 4);
        due("", "[[D", "assertArrayEquals(new double[][] {{0.5}}, Target.run());", 1, 1, 4);
        due("", "[Z", "assertArrayEquals(new boolean[] {true}, Target.run());", 1, 1);
        due("", "[[[O0", "assertArrayEquals(new C0[][][] {{{new C0()}}}, Target.run());", 1, 1, 1, 1);
    }

    @Sentence(promise = 8, under = "Terms, tests", says = "others: \"assertEquals(LITERAL, CALL);\".")
    static void returnedOthers() {
        due("", "B", "assertEquals((byte) -1, Target.run());", -1);
        due("", "C", "assertEquals(',', Target.run());", ',');
        due("", "S", "assertEquals((short) -1, Target.run());", -1);
        due("", "I", "assertEquals(Integer.MIN_VALUE, Target.run());", Integer.MIN_VALUE);
        due("", "J", "assertEquals(-1L, Target.run());", -1, -1);
        due("", "T", "assertEquals(\"x\", Target.run());", 1, 'x');
        due("", "T", "assertEquals(\"\", Target.run());");
        due("", "O1", "assertEquals(new C1(), Target.run());", 1);
    }

    @Sentence(promise = 9, under = "Terms, tests",
        says = "threw NAME: four lines: \"try {\", \"    CALL;\", \"    fail(\"NAME\");\" (NAME in quotes), "
            + "\"} catch (NAME e) {\", and a fifth: \"}\".")
    static void threwWritesFiveLines() {
        Harness h = new Harness(120).withParameters("IT").withResult("I").withData(5, 1, '"', 7);
        Check.due("threw()", h.threw("SomeError"), 0);
        Check.due("the body of threw()", h.onlyBody(), "try {\n    Target.run(5, \"\\\"\");\n    fail(\"SomeError\");\n"
            + "} catch (SomeError e) {\n}\n");
    }

    @Sentence(promise = 9, under = "Terms, tests", says = "Nothing of the RESULT is built.")
    static void threwBuildsNoResult() {
        for (String result : new String[] {"V", "I", "Z", "[T"}) {
            Harness h = new Harness(120).withParameters("I").withResult(result).withData(5, 1, 1, 'x');
            h.threw("E");
            Check.due("the body with the RESULT " + result, h.onlyBody(), threwBody("Target.run(5)", "E"));
            Check.due("taken() with the RESULT " + result, h.taken(), 1);
        }
    }

    @Sentence(promise = {8, 9}, under = "Terms, tests", says = "A TEST with the same body as an earlier one is not added.")
    static void sameBodiesAreNotAdded() {
        Harness h = new Harness(120).withParameters("I");
        h.returnedFrom(1);
        h.returnedFrom(2);
        h.returnedFrom(3);
        for (int i = 1; i <= 3; i++) {
            h.returnedFrom(i);
            Check.due("count(0) after " + i + " again", h.count(0), 3);
        }
        h.threw("E");
        h.threw("E");
        Check.due("count(0) after threw() twice", h.count(0), 4);
        Check.due("count(7) after threw() twice", h.count(7), 1);
        h.withParameters("C").returnedFrom('a');
        h.returnedFrom('a' + 65536);
        Check.due("count(0) after the same characters from other DATA", h.count(0), 5);
    }

    @Sentence(promise = {8, 9}, under = "Terms, tests", says = "At most 20 TESTS;")
    static void twentyTestsAreAll() {
        Harness h = new Harness(120).withParameters("I");
        for (int i = 0; i < 24; i++) {
            h.withData(i);
            int answer = i % 2 == 0 ? h.returned() : h.threw("E");
            Check.due("the trial " + i, answer, i < 20 ? i : -2);
            Check.due("count(0) after it", h.count(0), Math.min(i + 1, 20));
            Check.due("count(7) after it", h.count(7), Math.min((i + 1) / 2, 10));
        }
        String text = h.emitted();
        Check.due("the last TEST in THE TEXT", text.contains("void test19()") && !text.contains("void test20()") ? 1 : 0, 1);
    }

    @Sentence(promise = {8, 9}, under = "Terms, tests",
        says = "a body (before lines are broken) of more than 300 characters,")
    static void bodiesOf301AreNotAdded() {
        for (int length = 298; length <= 303; length++) {
            Harness h = Trials.withBodyOf(length);
            h.returned();
            Check.due("count(0) after a body of " + length, h.count(0), length <= 300 ? 1 : 0);
            Harness asserted = Trials.withBodyOf(length - "assertTrue()".length()).withResult("Z");
            asserted.data(1);
            asserted.returned();
            Check.due("count(0) after a body of " + length + " with a RESULT", asserted.count(0), length <= 300 ? 1 : 0);
        }
        Harness longest = Trials.withBodyOf(300);
        longest.returned();
        String broken = longest.onlyBody();
        Check.due("the body of 300 when broken", broken.length() > 300 ? 1 : 0, 1);
        Check.due("the body of 300 unbroken", broken.replace(",\n        ", ", ").length(), 300);
    }

    @Sentence(promise = {8, 9}, under = "Terms, tests",
        says = "with a line end behind each of its lines (the last one, too), is not added.")
    static void lineEndsCountForTheBody() {
        String name = "ANameOfLetters";
        for (int more = 0; more <= 2; more++) {
            Harness alone = Trials.withBodyOf(299 + more);
            alone.returned();
            Check.due("count(0) after one line of " + (298 + more) + " and its end", alone.count(0), more <= 1 ? 1 : 0);
            Harness five = Trials.withBodyOf(299 + more - MORE_IN_THREW);
            five.threw("E");
            Check.due("count(0) after five lines of " + (294 + more) + " and their ends", five.count(0), more <= 1 ? 1 : 0);
            Harness named = Trials.withBodyOf(299 + more - MORE_IN_THREW - 2 * (name.length() - 1));
            named.threw(name);
            Check.due("count(0) after five lines with a longer NAME", named.count(0), more <= 1 ? 1 : 0);
        }
    }

    // Promise 8: returned

    @Sentence(promise = 8, says = "Adds the TEST of a trial that returned: its number.")
    static void returnedAnswersTheNumber() {
        Harness h = new Harness(120).withParameters("I");
        for (int i = 0; i < 20; i++) {
            Check.due("returned() as the TEST " + i, h.returnedFrom(i), i);
            Check.due("count(0) after it", h.count(0), i + 1);
            Check.due("count(7) after it", h.count(7), 0);
        }
        h.drop();
        Check.due("returned() after drop()", h.returned(), 0);
        h.typed("Rest").returnedFrom(1);
        Check.due("count(1) after returned()", h.count(1), 4);
    }

    @Sentence(promise = 8, says = "The same body is there: SAME;")
    static void returnedOfTheSameIsSame() {
        Harness h = new Harness(120).withParameters("I");
        Check.due("returned() of 1", h.returnedFrom(1), 0);
        Check.due("returned() of 2", h.returnedFrom(2), 1);
        Check.due("returned() of 1 again", h.returnedFrom(1, 5), -4);
        Check.due("returned() of 2 again", h.returnedFrom(2), -4);
        Check.due("threw() of 2", h.threw("E"), 2);
        h.withParameters("B");
        Check.due("returned() of a byte 2", h.returned(), 3);
        h.withParameters("I").withResult("I");
        Check.due("returned() of 1 with a RESULT", h.returnedFrom(1, 1), 4);
        Check.due("returned() of 1 with another RESULT", h.returnedFrom(1, 2), 5);
        Check.due("returned() of a body that begins as another", h.returnedFrom(1, 22), 6);
        h.drop();
        h.withResult("V");
        Check.due("returned() of what was dropped", h.returnedFrom(1), 0);
    }

    @Sentence(promise = 8, says = "20 TESTS: FULL;")
    static void returnedWith20IsFull() {
        Harness h = Trials.full();
        Check.due("returned() with 20 TESTS", h.returnedFrom(20), -2);
        Check.due("returned() again", h.returnedFrom(21), -2);
        Check.due("count(0) after FULL", h.count(0), 20);
        h.drop();
        Check.due("returned() when the 20 are gone", h.returnedFrom(20), 0);
    }

    @Sentence(promise = 8, says = "too long: LONG")
    static void returnedOf301IsLong() {
        for (int length = 298; length <= 303; length++) {
            Check.due("returned() of " + length, Trials.withBodyOf(length).returned(), length <= 300 ? 0 : -5);
        }
        Harness far = new Harness(120).withFields(0, "O0O0O0O0").withParameters("O0O0O0O0").withResult("O0");
        Check.due("returned() of objects in objects", far.returned(), -5);
        Harness outcome = new Harness(120).withFields(0, "O0O0O0O0").withResult("O0");
        Check.due("returned() of such a RESULT", outcome.returned(), -5);
        outcome.data(-1);
        Check.due("returned() when it is null", outcome.returned(), 0);
    }

    @Sentence(promise = 8, says = "(tested in the order FULL, LONG, SAME).")
    static void fullIsToldBeforeLongAndSame() {
        Harness h = Trials.full();
        Check.due("returned() of a body that is there, with 20 TESTS", h.returnedFrom(0), -2);
        h.withFields(0, "O0O0O0O0").withParameters("O0");
        Check.due("returned() of a long body with 20 TESTS", h.returned(), -2);
        h.drop();
        Check.due("the long body without them", h.returned(), -5);
        Check.due("the long body again", h.returned(), -5);
    }

    @Sentence(promise = 8, under = "Terms, calls", says = "A refused call changes nothing,")
    static void refusedReturnedChangesNothing() {
        Harness same = Trials.settled().typed("Name");
        String before = same.seen();
        int taken = same.copy().taken();
        Check.due("returned() of what is there", same.returned(), -4);
        Check.due("the state after SAME", same.seen(), before);
        Check.due("taken() after SAME of the last one", same.taken(), taken);
        Harness tooLong = Trials.withBodyOf(301).withFields(0, "I").typed("Name");
        tooLong.emit();
        before = tooLong.seen();
        Check.due("returned() of 301", tooLong.returned(), -5);
        Check.due("the state after LONG", tooLong.seen(), before);
        Harness full = Trials.full().withData(99).typed("Name");
        full.emit();
        before = full.seen();
        Check.due("returned() with 20 TESTS", full.returned(), -2);
        Check.due("the state after FULL", full.seen(), before);
    }

    // Promise 9: threw

    @Sentence(promise = 9, says = "Adds the TEST of a trial that threw the NAME in THE LINE,")
    static void threwTakesTheName() {
        for (String name : new String[] {"E", "NullPointerException", "abcdefghijklmnopqrstuvwxyzABCDEFGHIJKLMN"}) {
            Harness h = new Harness(120);
            Check.due("threw() of " + name, h.threw(name), 0);
            Check.due("its body", h.onlyBody(), threwBody("Target.run()", name));
            Check.due("count(7) after it", h.count(7), 1);
        }
    }

    @Sentence(promise = 9, says = "which is empty then, whatever is answered: its number.")
    static void threwEmptiesTheLineWhateverIsAnswered() {
        Harness h = new Harness(120).withParameters("I");
        for (int i = 0; i < 20; i++) {
            Check.due("threw() as the TEST " + i, h.withData(i).threw("E"), i);
            Check.due("count(1) after it", h.count(1), 0);
            if (i == 0) {
                Check.due("threw() of the same", h.threw("E"), -4);
                Check.due("count(1) after SAME", h.count(1), 0);
            }
        }
        Check.due("threw() with 20 TESTS", h.threw("F"), -2);
        Check.due("count(1) after FULL", h.count(1), 0);
        Check.due("threw() of no NAME", h.threw("F1"), -3);
        Check.due("count(1) after BAD", h.count(1), 0);
        Harness tooLong = Trials.withBodyOf(301);
        Check.due("threw() of a long body", tooLong.threw("E"), -5);
        Check.due("count(1) after LONG", tooLong.count(1), 0);
    }

    @Sentence(promise = 9, says = "THE LINE is not one or more letters A .. Z, a .. z: BAD.")
    static void namesAreLetters() {
        Check.due("threw() of an empty LINE", new Harness(40).threw(), -3);
        for (int c = 0; c <= 127; c++) {
            boolean isLetter = c >= 'A' && c <= 'Z' || c >= 'a' && c <= 'z';
            for (String name : new String[] {"" + (char) c, "E" + (char) c, (char) c + "E", "a" + (char) c + "z"}) {
                Harness h = new Harness(40);
                Check.due("threw() of " + name, h.threw(name), isLetter ? 0 : -3);
                Check.due("count(0) after it", h.count(0), isLetter ? 1 : 0);
                Check.due("count(7) after it", h.count(7), isLetter ? 1 : 0);
            }
        }
        Check.due("threw() of 40 letters", new Harness(40).threw("x".repeat(40)), 0);
        Check.due("threw() of 39 letters and a digit", new Harness(40).threw("x".repeat(39) + "0"), -3);
    }

    @Sentence(promise = 9, says = "THE LINE is not one or more letters A .. Z, a .. z: BAD. Else as returned.")
    static void badIsToldBeforeFullAndLong() {
        Check.due("threw() of no NAME with 20 TESTS", Trials.full().threw("?"), -3);
        Check.due("threw() of nothing with 20 TESTS", Trials.full().threw(""), -3);
        Check.due("threw() of no NAME and a long body", Trials.withBodyOf(301).threw("?"), -3);
    }

    @Sentence(promise = 9, says = "Else as returned.")
    static void threwOfTheSameIsSame() {
        Harness h = new Harness(120).withParameters("I").withResult("I").withData(1, 2);
        Check.due("returned() of 1", h.returned(), 0);
        Check.due("threw() of 1", h.threw("E"), 1);
        Check.due("threw() of 1 again", h.threw("E"), -4);
        Check.due("threw() of 1 with another NAME", h.threw("Ee"), 2);
        Check.due("threw() of 1 with a small letter", h.threw("e"), 3);
        Check.due("threw() of 1 with other DATA behind it", h.withData(1, 3).threw("E"), -4);
        Check.due("threw() of 2", h.withData(2).threw("E"), 4);
    }

    @Sentence(promise = 9, says = "Else as returned.")
    static void threwWith20IsFull() {
        Harness h = Trials.full();
        Check.due("threw() with 20 TESTS", h.threw("F"), -2);
        Check.due("threw() of the same with 20 TESTS", h.threw("E"), -2);
        h.withFields(0, "O0O0O0O0").withParameters("O0");
        Check.due("threw() of a long body with 20 TESTS", h.threw("E"), -2);
        Check.due("count(0) after FULL", h.count(0), 20);
        Check.due("count(7) after FULL", h.count(7), 10);
    }

    @Sentence(promise = 9, says = "Else as returned.")
    static void threwOf301IsLong() {
        for (int length = 298; length <= 303; length++) {
            Harness h = Trials.withBodyOf(length - MORE_IN_THREW);
            Check.due("threw() of " + length, h.threw("E"), length <= 300 ? 0 : -5);
            Check.due("count(7) after it", h.count(7), length <= 300 ? 1 : 0);
        }
    }

    @Sentence(promise = 9, under = "Terms, calls", says = "A refused call changes nothing,")
    static void refusedThrewChangesNothing() {
        Harness same = Trials.settled();
        same.threw("Oops");
        String before = same.seen();
        int taken = same.copy().taken();
        Check.due("threw() of what is there", same.threw("Oops"), -4);
        Check.due("threw() of no NAME", same.threw("Oops?"), -3);
        Check.due("the state after SAME and BAD", same.seen(), before);
        Check.due("taken() after SAME of the last one and BAD", same.taken(), taken);
        Harness tooLong = Trials.withBodyOf(301).withFields(0, "I");
        tooLong.emit();
        before = tooLong.seen();
        Check.due("threw() of a long body", tooLong.threw("E"), -5);
        Check.due("the state after LONG", tooLong.seen(), before);
        Harness full = Trials.full().withData(99);
        full.emit();
        before = full.seen();
        Check.due("threw() with 20 TESTS", full.threw("E"), -2);
        Check.due("the state after FULL", full.seen(), before);
    }

    // Promise 11: drop

    @Sentence(promise = 11, says = "All TESTS go: how many there were.")
    static void dropForgetsAll() {
        for (int size : new int[] {0, 1, 2, 19, 20}) {
            Harness h = new Harness(120).withParameters("I");
            for (int i = 0; i < size; i++) {
                h.withData(i).threw("E");
            }
            Check.due("drop() of " + size, h.drop(), size);
            Check.due("count(0) after it", h.count(0), 0);
            Check.due("count(7) after it", h.count(7), 0);
            Check.due("drop() again", h.drop(), 0);
            Check.due("what was there is new again", h.threw("E"), 0);
            Check.due("count(7) then", h.count(7), 1);
        }
    }

    @Sentence(promise = 11, says = "All TESTS go:")
    static void dropLeavesTheRest() {
        Harness h = Trials.settled().typed("Name");
        Harness same = h.copy();
        h.drop();
        Check.due("THE TEXT after drop()", h.text(), same.text());
        Check.due("taken() after drop()", h.taken(), same.taken());
        for (int what = 1; what <= 6; what++) {
            Check.due("count(" + what + ") after drop()", h.count(what), same.count(what));
        }
        Check.due("THE TEXT of no TESTS", h.emitted(), "public class TargetTest {\n}\n");
        Check.due("the body of the next trial", h.bodyFrom(1, 0, 0, 'x', 5),
            "assertEquals(5, Target.run(new C1(false, \"\"), 'x'));\n");
    }
}
