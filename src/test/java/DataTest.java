/** Promises 6, 7 and 10: data, clear and taken. */
public final class DataTest {
    public static void main(String[] args) {
        dataAnswersHowMany();
        clearForgetsAll();
        dataStayWhenUsed();
        zerosFollowTheLast();
        takenTellsTheLastBuilding();
        takenLooksAtLongAndSame();
        takenLeavesOutBadAndFull();
        takenOutlivesTheRest();
        Check.end();
    }

    private static void dataAnswersHowMany() {
        TestEmitter x = new TestEmitter(40);
        for (int n = 1; n <= 60; n++) {
            Check.due("data as the int " + n, x.data(n % 2 == 0 ? Integer.MIN_VALUE : Integer.MAX_VALUE), n);
            Check.due("count(2)", x.count(2), n);
        }
        Check.due("data with 60 there", x.data(0), -2);
        Check.due("count(2) behind it", x.count(2), 60);
    }

    private static void clearForgetsAll() {
        Harness h = new Harness(120).parameters("I").data(1, 2, 3);
        Check.due("clear()", h.emitter.clear(), 3);
        Check.due("clear() again", h.emitter.clear(), 0);
        Check.due("count(2) after clear()", h.emitter.count(2), 0);
        Check.due("returned() after clear()", h.emitter.returned(), 0);
        Check.due("the body after clear()", h.onlyBody(), "Target.run(0);\n");
        Check.due("data after clear()", h.emitter.data(5), 1);
    }

    private static void dataStayWhenUsed() {
        Harness h = new Harness(120).parameters("II");
        h.returned(3, 4, 5);
        Check.due("count(2) after returned()", h.emitter.count(2), 3);
        Check.due("returned() from the same DATA", h.emitter.returned(), -4);
        Check.due("threw() from the same DATA", h.threw("E"), 1);
        Check.due("count(2) after threw()", h.emitter.count(2), 3);
        Check.due("data behind them", h.emitter.data(6), 4);
    }

    private static void zerosFollowTheLast() {
        Check.due("ints behind the last", Harness.bodyOf("IIII", "J", 1, 2), "assertEquals(0L, Target.run(1, 2, 0, 0));\n");
        Check.due("a long that begins with the last", Harness.literalOf("J", 1), "4294967296L");
        Check.due("a text with its characters behind the last", Harness.literalOf("T", 2), "\"\\u0000\\u0000\"");
        Check.due("all kinds from nothing", Harness.bodyOf("ZBCS", "T"),
            "assertEquals(\"\", Target.run(false, (byte) 0, '\\u0000', (short) 0));\n");
        Check.due("more kinds from nothing", Harness.bodyOf("FD[IO0", "O1"),
            "assertEquals(new C1(), Target.run(0.0f, 0.0, new int[] {}, new C0()));\n");
    }

    private static void takenTellsTheLastBuilding() {
        Harness h = new Harness(120).parameters("IJ").result("Z");
        Check.due("taken() at first", h.emitter.taken(), -1);
        h.returned(1, 2, 3, 4, 5);
        Check.due("taken() with the RESULT", h.emitter.taken(), 4);
        h.threw("E");
        Check.due("taken() without the RESULT", h.emitter.taken(), 3);
        h.returned(9, 8);
        Check.due("taken() with 0s behind the last", h.emitter.taken(), 2);
        h.returned();
        Check.due("taken() of no DATA", h.emitter.taken(), 0);
        h.parameters("").result("V");
        h.returned(1, 2, 3);
        Check.due("taken() by nothing", h.emitter.taken(), 0);
        h.parameters("[TT");
        h.returned(6, -1, 7, 'a', 'b', -5, 0);
        Check.due("taken() by texts", h.emitter.taken(), 6);
    }

    private static void takenLooksAtLongAndSame() {
        Harness h = new Harness(120).parameters("I");
        h.returned(7, 8);
        h.parameters("[T[T[T");
        Check.due("a LONG call", h.returned(threeArraysOfTextsAndTwoMore()), -5);
        Check.due("taken() by the LONG call", h.emitter.taken(), 48);
        h.result("I");
        Check.due("a LONG call with a RESULT", h.emitter.returned(), -5);
        Check.due("taken() by it", h.emitter.taken(), 49);
        Check.due("a LONG call of threw()", h.threw("E"), -5);
        Check.due("taken() by that", h.emitter.taken(), 48);
        h.parameters("I").result("V");
        Check.due("a SAME call", h.returned(7, 8), -4);
        Check.due("taken() by the SAME call", h.emitter.taken(), 1);
        h.fields(0, "O0O0O0O0").parameters("O0O0O0O0");
        Check.due("a LONG call far behind its DATA", h.returned(new int[59]), -5);
        Check.due("taken() by such a call", h.emitter.taken(), 59);
    }

    private static int[] threeArraysOfTextsAndTwoMore() {
        int[] row = new int[50];
        for (int i = 0; i < 48; i++) {
            row[i] = i % 16 == 0 ? 3 : i % 16 % 5 == 1 ? 4 : 1;
        }
        return row;
    }

    private static void takenLeavesOutBadAndFull() {
        Harness h = new Harness(120).parameters("I");
        Check.due("threw() of no NAME", h.threw(""), -3);
        Check.due("taken() after BAD alone", h.emitter.taken(), -1);
        for (int i = 0; i < 20; i++) {
            h.returned(i);
        }
        h.parameters("III");
        Check.due("returned() with 20 TESTS", h.returned(1, 2, 3), -2);
        Check.due("taken() after FULL", h.emitter.taken(), 1);
        Check.due("threw() with 20 TESTS", h.threw("E"), -2);
        Check.due("taken() after FULL from threw()", h.emitter.taken(), 1);
        h.emitter.drop();
        Check.due("threw() of no NAME", h.threw("E1"), -3);
        Check.due("taken() after BAD", h.emitter.taken(), 1);
    }

    private static void takenOutlivesTheRest() {
        Harness h = new Harness(120).parameters("II");
        h.returned(1, 2, 3);
        h.emitter.clear();
        h.emitter.drop();
        h.emitter.emit();
        h.parameters("").result("I");
        Check.due("taken() after everything else", h.emitter.taken(), 2);
    }
}
