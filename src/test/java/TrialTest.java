/** Promises 8, 9 and 11: returned, threw and drop. */
public final class TrialTest {
    public static void main(String[] args) {
        returnedWritesEachResult();
        nullsAreAsserted();
        resultFollowsTheArguments();
        threwWritesFiveLines();
        namesAreLetters();
        threwEmptiesTheLine();
        sameBodiesAreLeftOut();
        twentyTestsAreAll();
        longBodiesAreLeftOut();
        theOrderOfTheAnswers();
        dropForgetsAll();
        refusedCallsChangeNothing();
        Check.end();
    }

    private static void due(String parameters, String result, String want, int... row) {
        Check.due("the body of " + parameters + " to " + result, Harness.bodyOf(parameters, result, row), want + "\n");
    }

    private static void returnedWritesEachResult() {
        due("", "V", "Target.run();");
        due("I", "V", "Target.run(5);", 5, 6);
        due("I", "Z", "assertTrue(Target.run(5));", 5, 7);
        due("I", "Z", "assertFalse(Target.run(5));", 5, 6);
        due("I", "F", "assertEquals(0.5f, Target.run(5), 0.0f);", 5, 4);
        due("I", "D", "assertEquals(0.5, Target.run(5), 0.0);", 5, 4);
        due("", "B", "assertEquals((byte) -1, Target.run());", -1);
        due("", "C", "assertEquals(',', Target.run());", ',');
        due("", "S", "assertEquals((short) -1, Target.run());", -1);
        due("", "I", "assertEquals(Integer.MIN_VALUE, Target.run());", Integer.MIN_VALUE);
        due("", "J", "assertEquals(-1L, Target.run());", -1, -1);
        due("", "T", "assertEquals(\"x\", Target.run());", 1, 'x');
        due("", "O1", "assertEquals(new C1(), Target.run());", 1);
        due("", "[I", "assertArrayEquals(new int[] {7}, Target.run());", 1, 7);
        due("", "[[D", "assertArrayEquals(new double[][] {{0.5}}, Target.run());", 1, 1, 4);
        due("", "[F", "assertArrayEquals(new float[] {0.5f}, Target.run());", 1, 4);
        due("", "[Z", "assertArrayEquals(new boolean[] {true}, Target.run());", 1, 1);
        due("", "[O0", "assertArrayEquals(new C0[] {new C0()}, Target.run());", 1, 1);
    }

    private static void nullsAreAsserted() {
        due("I", "T", "assertNull(Target.run(3));", 3, -1);
        due("I", "[F", "assertNull(Target.run(3));", 3, -1);
        due("I", "[[[Z", "assertNull(Target.run(3));", 3, -1);
        due("I", "O0", "assertNull(Target.run(3));", 3, -1);
        due("", "T", "assertEquals(\"null\", Target.run());", 4, 'n', 'u', 'l', 'l');
        due("", "[T", "assertArrayEquals(new String[] {null}, Target.run());", 1, -1);
    }

    private static void resultFollowsTheArguments() {
        due("TI", "I", "assertEquals(4, Target.run(\"a\", 3));", 1, 'a', 3, 4, 5);
        due("ITZC", "J", "assertEquals(8589934595L, Target.run(1, null, true, 'c'));", 1, -1, 1, 'c', 2, 3);
    }

    private static void threwWritesFiveLines() {
        Harness h = new Harness(120).parameters("IT").result("I").data(5, 1, '"', 7);
        Check.due("threw()", h.threw("SomeError"), 0);
        Check.due("the body of threw()", h.onlyBody(), "try {\n    Target.run(5, \"\\\"\");\n    fail(\"SomeError\");\n"
            + "} catch (SomeError e) {\n}\n");
        Check.due("count(7)", h.emitter.count(7), 1);
    }

    private static void namesAreLetters() {
        String[] good = {"E", "z", "A", "Za", "aZ", "V", "abcdefghijklmnopqrstuvwxyzABCDEFGHIJKLMN"};
        String[] bad = {"", " ", "E1", "1E", "E ", " E", "a.b", "a_b", "a$", "@", "[", "`", "{", "E\0", "\u007F"};
        for (String name : good) {
            Harness h = new Harness(120);
            Check.due("threw() of " + name, h.threw(name), 0);
            Check.due("its body", h.onlyBody(), "try {\n    Target.run();\n    fail(\"" + name + "\");\n} catch (" + name
                + " e) {\n}\n");
        }
        for (String name : bad) {
            Harness h = new Harness(120);
            Check.due("threw() of " + name, h.threw(name), -3);
            Check.due("count(1) after it", h.emitter.count(1), 0);
            Check.due("count(0) after it", h.emitter.count(0), 0);
            Check.due("count(7) after it", h.emitter.count(7), 0);
        }
    }

    private static void threwEmptiesTheLine() {
        Harness h = new Harness(120);
        h.threw("E");
        Check.due("count(1) after threw()", h.emitter.count(1), 0);
        Check.due("threw() again", h.threw("E"), -4);
        Check.due("count(1) after SAME", h.emitter.count(1), 0);
        h.typed("Rest");
        h.returned(1);
        Check.due("count(1) after returned()", h.emitter.count(1), 4);
    }

    private static void sameBodiesAreLeftOut() {
        Harness h = new Harness(120).parameters("I");
        Check.due("returned() of 1", h.returned(1), 0);
        Check.due("returned() of 2", h.returned(2), 1);
        Check.due("returned() of 1 again", h.returned(1, 5), -4);
        Check.due("returned() of 2 again", h.returned(2), -4);
        Check.due("threw() of 2", h.threw("E"), 2);
        Check.due("threw() of 2 again", h.threw("E"), -4);
        Check.due("threw() of 2 with another NAME", h.threw("F"), 3);
        h.parameters("B");
        Check.due("returned() of a byte 1", h.returned(1), 4);
        h.parameters("I").result("I");
        Check.due("returned() of 1 with a RESULT", h.returned(1, 1), 5);
        Check.due("returned() of 1 with another RESULT", h.returned(1, 2), 6);
        h.parameters("C").result("V");
        Check.due("returned() of the same characters", h.returned('a') + h.returned('a' + 65536), 7 - 4);
        Check.due("count(0)", h.emitter.count(0), 8);
        Check.due("count(7)", h.emitter.count(7), 2);
    }

    private static void twentyTestsAreAll() {
        Harness h = new Harness(120).parameters("I");
        for (int i = 0; i < 20; i++) {
            h.data(i);
            Check.due("the TEST " + i, i % 2 == 0 ? h.emitter.returned() : h.threw("E"), i);
            Check.due("count(0)", h.emitter.count(0), i + 1);
        }
        Check.due("returned() with 20 TESTS", h.returned(20), -2);
        Check.due("returned() of the same with 20 TESTS", h.returned(0), -2);
        Check.due("threw() with 20 TESTS", h.threw("F"), -2);
        Check.due("count(1) after FULL", h.emitter.count(1), 0);
        Check.due("count(0) after FULL", h.emitter.count(0), 20);
        Check.due("count(7) after FULL", h.emitter.count(7), 10);
    }

    /** A body "Target.run(new String[] {...}, new String[] {...}, ..);" of that many characters with its line end. */
    private static Harness withBodyOf(int length) {
        Harness h = new Harness(120).parameters("[T[T[TI");
        int fixed = "Target.run(, , , 1);\n".length() + 3 * "new String[] {\"\", \"\", \"\"}".length();
        int missing = length - fixed;
        int[] row = new int[49];
        int n = 0;
        for (int text = 0; text < 9; text++) {
            if (text % 3 == 0) {
                row[n++] = 3;
            }
            int wide = Math.min(4, missing / 6);
            int plain = Math.min(4 - wide, missing - 6 * wide);
            row[n++] = wide + plain;
            for (int i = 0; i < wide + plain; i++) {
                row[n++] = i < wide ? 1 : 'p';
            }
            missing -= 6 * wide + plain;
        }
        row[n] = (int) Math.pow(10, missing);
        return h.data(java.util.Arrays.copyOf(row, n + 1));
    }

    private static void longBodiesAreLeftOut() {
        for (int length = 297; length <= 303; length++) {
            Harness h = withBodyOf(length);
            Check.due("returned() of " + length, h.emitter.returned(), length <= 300 ? 0 : -5);
            Check.due("count(0) after " + length, h.emitter.count(0), length <= 300 ? 1 : 0);
            Harness asserted = withBodyOf(length - "assertTrue()".length()).result("Z");
            asserted.emitter.data(1);
            Check.due("returned() of a Z of " + length, asserted.emitter.returned(), length <= 300 ? 0 : -5);
            // "try {", 2 times 4 blanks, fail, catch, "}" and four more line ends are 43 with the NAME twice.
            Harness t = withBodyOf(length - 43);
            Check.due("threw() of " + length, t.threw("E"), length <= 300 ? 0 : -5);
            Check.due("count(7) after " + length, t.emitter.count(7), length <= 300 ? 1 : 0);
            Check.due("count(1) after " + length, t.emitter.count(1), 0);
        }
        Harness longest = withBodyOf(300);
        longest.emitter.returned();
        Check.due("the body of 300 unbroken", longest.onlyBody().replace(",\n        ", ", ").length(), 300);
    }

    private static void theOrderOfTheAnswers() {
        Harness h = new Harness(120);
        for (int i = 0; i < 20; i++) {
            h.threw("abcdefghijklmnopqrst".substring(i));
        }
        Check.due("threw() of no NAME with 20 TESTS", h.threw("?"), -3);
        Check.due("threw() of the same with 20 TESTS", h.threw("t"), -2);
        h.fields(0, "O0O0O0O0").parameters("O0");
        Check.due("a LONG call with 20 TESTS", h.returned(), -2);
        h.emitter.drop();
        Check.due("the LONG call without them", h.returned(), -5);
        Check.due("the LONG call again", h.returned(), -5);
        Check.due("a LONG threw() of no NAME", h.threw(""), -3);
        Check.due("a LONG threw()", h.threw("E"), -5);
    }

    private static void dropForgetsAll() {
        Harness h = new Harness(120).parameters("I");
        h.returned(1);
        h.returned(2);
        h.threw("E");
        String before = h.text();
        Check.due("drop()", h.emitter.drop(), 3);
        Check.due("drop() again", h.emitter.drop(), 0);
        Check.due("count(0) after drop()", h.emitter.count(0), 0);
        Check.due("count(7) after drop()", h.emitter.count(7), 0);
        Check.due("THE TEXT after drop()", h.emitter.count(3), before.length());
        Check.due("count(2) after drop()", h.emitter.count(2), 1);
        Check.due("what was there is new again", h.emitter.returned(), 0);
        Check.due("and is the only one", h.onlyBody(), "Target.run(2);\n");
    }

    private static void refusedCallsChangeNothing() {
        Harness h = new Harness(120).parameters("I").result("I");
        h.returned(1, 2);
        String before = h.text();
        h.returned(1, 2);
        h.threw("4");
        h.fields(0, "O0O0O0O0").parameters("O0");
        h.returned();
        h.threw("E");
        Check.due("THE TEXT after SAME, BAD and LONG", h.text(), before);
    }
}
