/** Promises 6, 7 and 10: data, clear and taken, with the terms of DATA that they speak of. */
public final class DataTest {
    private static final int MIN = Integer.MIN_VALUE;
    private static final int MAX = Integer.MAX_VALUE;

    public static void main(String[] args) {
        Check.sentences(DataTest.class);
    }

    private static Harness withDataOf(int size) {
        return new Harness(120).withData(new int[size]);
    }

    // Terms

    @Sentence(promise = 6, under = "Terms, building", says = "DATA is a row of at most 60 ints.")
    static void sixtyIntsAreUsed() {
        Harness h = new Harness(120).withParameters("[T[T[TI").withResult("[T").withData(sixtyInts());
        Check.due("count(2) with 60 there", h.count(2), 60);
        Check.due("returned() from 60", h.returned(), 0);
        Check.due("taken() by it", h.taken(), 60);
        Check.due("the first and the last of them", h.onlyBody().replace(",\n        ", ", "),
            "assertArrayEquals(new String[] {\"xxxx\", \"xxxz\"}, Target.run(new String[] {\"xxxx\", \"xxxx\", \"xxxx\"}, "
            + "new String[] {\"xxxx\", \"xxxx\", \"xxxx\"}, new String[] {\"xxxx\", \"xxxx\", \"xxxx\"}, 7));\n");
    }

    /** Three arrays of three texts of four characters, the int 7, and an array of two such texts. */
    private static int[] sixtyInts() {
        int[] row = new int[60];
        for (int i = 0; i < 60; i++) {
            int place = i < 48 ? i % 16 : i - 49;
            row[i] = place == 0 ? 3 : place % 5 == 1 ? 4 : 'x';
        }
        row[48] = 7;
        row[49] = 2;
        row[59] = 'z';
        return row;
    }

    @Sentence(promise = {8, 9}, under = "Terms, building", says = "BUILDING a value takes ints from it, from the first on, each once;")
    static void intsAreTakenFromTheFirstOnEachOnce() {
        Check.due("four arguments and a RESULT", Harness.bodyOf("IIII", "I", 1, 2, 3, 4, 5, 6),
            "assertEquals(5, Target.run(1, 2, 3, 4));\n");
        Harness h = new Harness(120).withParameters("II");
        h.returnedFrom(1, 2, 3);
        h.data(4);
        h.drop();
        h.returned();
        Check.due("the next trial begins at the first again", h.onlyBody(), "Target.run(1, 2);\n");
    }

    @Sentence(promise = {8, 9}, under = "Terms, building", says = "behind the last one, 0s:")
    static void zerosFollowTheLast() {
        Check.due("ints behind the last", Harness.bodyOf("IIII", "J", 1, 2), "assertEquals(0L, Target.run(1, 2, 0, 0));\n");
        Check.due("a long that begins with the last", Harness.literalOf("J", 1), "4294967296L");
        Check.due("characters behind the last", Harness.literalOf("T", 2), "\"\\u0000\\u0000\"");
        Check.due("values behind the last", Harness.literalOf("[I", 3, 9), "new int[] {9, 0, 0}");
        Check.due("all kinds from nothing", Harness.bodyOf("ZBCS", "T"),
            "assertEquals(\"\", Target.run(false, (byte) 0, '\\u0000', (short) 0));\n");
        Check.due("more kinds from nothing", Harness.bodyOf("FD[IO0", "O1"),
            "assertEquals(new C1(), Target.run(0.0f, 0.0, new int[] {}, new C0()));\n");
        Harness h = new Harness(120).withParameters("II");
        h.withData(7, 8, 9).clear();
        Check.due("what was cleared is not behind the last", h.bodyFrom(5), "Target.run(5, 0);\n");
    }

    @Sentence(promise = {8, 9}, under = "Terms, calls", says = "DATA stays when it is used.")
    static void dataStayWhenUsed() {
        Harness h = new Harness(120).withParameters("II").withResult("I");
        h.returnedFrom(3, 4, 5);
        Check.due("count(2) after returned()", h.count(2), 3);
        Check.due("returned() from the same DATA", h.returned(), -4);
        Check.due("count(2) after SAME", h.count(2), 3);
        Check.due("threw() from the same DATA", h.threw("E"), 1);
        Check.due("count(2) after threw()", h.count(2), 3);
        Check.due("data() behind them", h.data(6), 4);
        Check.due("clear() of them", h.clear(), 4);
    }

    // Promise 6: data

    @Sentence(promise = 6, says = "Puts an int at the end of the DATA: how many.")
    static void dataAnswersHowMany() {
        Harness h = new Harness(40);
        for (int n = 1; n <= 60; n++) {
            Check.due("data() as the int " + n, h.data(n % 2 == 0 ? MIN : MAX), n);
            Check.due("count(2)", h.count(2), n);
        }
        Check.due("the order", Harness.bodyOf("IIII", "V", MAX, -1, MIN, 0),
            "Target.run(2147483647, -1, Integer.MIN_VALUE, 0);\n");
    }

    @Sentence(promise = 6, says = "60 there: FULL.")
    static void int61IsFull() {
        Harness h = withDataOf(59);
        Check.due("data() with 59 there", h.data(1), 60);
        for (int x : new int[] {0, 1, -1, MIN, MAX}) {
            Check.due("data(" + x + ") with 60 there", h.data(x), -2);
            Check.due("count(2) with 60 there", h.count(2), 60);
        }
        h.clear();
        Check.due("data() when the 60 are gone", h.data(1), 1);
    }

    @Sentence(promise = 6, under = "Terms, calls", says = "A refused call changes nothing,")
    static void refusedDataChangeNothing() {
        Harness h = Trials.settled();
        while (h.count(2) < 60) {
            h.data(9);
        }
        String before = h.seen();
        Check.due("data() with 60 there", h.data(8), -2);
        Check.due("the state after FULL", h.seen(), before);
    }

    // Promise 7: clear

    @Sentence(promise = 7, says = "The DATA are gone: how many there were.")
    static void clearForgetsAll() {
        for (int size : new int[] {0, 1, 59, 60}) {
            Harness h = withDataOf(size);
            Check.due("clear() of " + size, h.clear(), size);
            Check.due("count(2) after it", h.count(2), 0);
            Check.due("clear() again", h.clear(), 0);
            Check.due("data() after it", h.data(5), 1);
        }
        Harness h = new Harness(120).withParameters("I").withData(1, 2, 3);
        h.clear();
        h.returned();
        Check.due("the body after clear()", h.onlyBody(), "Target.run(0);\n");
        Check.due("taken() after clear()", h.taken(), 0);
    }

    @Sentence(promise = 7, says = "The DATA are gone:")
    static void clearLeavesTheRest() {
        Harness h = Trials.settled().typed("Name");
        Harness same = h.copy();
        Check.due("clear() of 5", h.clear(), 5);
        Check.due("taken() after clear()", h.taken(), same.taken());
        Check.due("count(1) after clear()", h.count(1), 4);
        Check.due("count(0) after clear()", h.count(0), 3);
        Check.due("THE TEXT after clear()", h.text(), same.text());
        h.withData(-1, 'b', 4, 5, 6);
        Check.due("the state with the same DATA again", h.seen(), same.seen());
    }

    // Promise 10: taken

    @Sentence(promise = 10, says = "How many DATA the last of the returned and threw calls that built took")
    static void takenTellsTheLastBuilding() {
        Harness h = new Harness(120).withParameters("IJ").withResult("Z");
        h.returnedFrom(1, 2, 3, 4, 5);
        Check.due("taken() with the RESULT", h.taken(), 4);
        h.threw("E");
        Check.due("taken() without the RESULT", h.taken(), 3);
        h.withParameters("").withResult("V").returned();
        Check.due("taken() by nothing", h.taken(), 0);
        h.withParameters("[TT").returnedFrom(6, -1, 7, 'a', 'b', -5, 0);
        Check.due("taken() by texts", h.taken(), 6);
        h.clear();
        h.drop();
        h.emit();
        h.withParameters("").withResult("I").withFields(0, "I");
        Check.due("taken() after all calls that do not build", h.taken(), 6);
    }

    @Sentence(promise = 10, says = "the last of the returned and threw calls that built")
    static void callsThatAnswerLongOrSameHaveBuilt() {
        Harness h = Trials.withBodyOf(301);
        Check.due("taken() before", h.taken(), -1);
        int size = h.count(2);
        Check.due("a LONG call", h.returned(), -5);
        Check.due("taken() by the LONG call", h.taken(), size);
        h.withResult("I").data(7);
        Check.due("a LONG call with a RESULT", h.returned(), -5);
        Check.due("taken() by it", h.taken(), size + 1);
        Check.due("a LONG call of threw()", h.threw("E"), -5);
        Check.due("taken() by that", h.taken(), size);
        h.withParameters("I").withResult("V");
        Check.due("another call", h.returned(), 0);
        h.withParameters("").returned();
        Check.due("taken() by nothing", h.taken(), 0);
        h.withParameters("I");
        Check.due("a SAME call", h.returned(), -4);
        Check.due("taken() by the SAME call", h.taken(), 1);
    }

    @Sentence(promise = 10, says = "(0s behind the last one not counted;")
    static void zerosBehindTheLastAreNotTaken() {
        Harness h = new Harness(120).withParameters("IJ").withResult("J");
        for (int size = 0; size <= 6; size++) {
            h.returnedFrom(new int[size]);
            Check.due("taken() of " + size + " DATA", h.taken(), Math.min(size, 5));
            h.threw("E");
            Check.due("taken() of " + size + " DATA by threw()", h.taken(), Math.min(size, 3));
        }
        h.withFields(0, "O0O0O0O0").withParameters("O0O0O0O0");
        for (int size : new int[] {0, 59, 60}) {
            Check.due("a LONG call far behind its DATA", h.returnedFrom(new int[size]), -5);
            Check.due("taken() by it", h.taken(), size);
        }
    }

    @Sentence(promise = 10, says = "a call that answers BAD or FULL does not build and changes nothing here);")
    static void takenLeavesOutBad() {
        Harness h = new Harness(120).withParameters("I");
        h.returnedFrom(1, 2, 3);
        h.withParameters("II");
        for (String noName : new String[] {"", "E1"}) {
            Check.due("threw() of no NAME", h.threw(noName), -3);
            Check.due("taken() after BAD", h.taken(), 1);
        }
    }

    @Sentence(promise = 10, says = "a call that answers BAD or FULL does not build and changes nothing here);")
    static void takenLeavesOutFull() {
        Harness h = Trials.full().withParameters("III").withData(1, 2, 3);
        Check.due("returned() with 20 TESTS", h.returned(), -2);
        Check.due("taken() after FULL", h.taken(), 1);
        Check.due("threw() with 20 TESTS", h.threw("E"), -2);
        Check.due("taken() after FULL from threw()", h.taken(), 1);
    }

    @Sentence(promise = 10, says = "REFUSED if there was none so.")
    static void takenIsRefusedBeforeTheFirstBuilding() {
        Harness h = new Harness(120);
        Check.due("taken() of a new object", h.taken(), -1);
        h.data(5);
        h.emit();
        h.drop();
        Check.due("threw() of no NAME", h.threw(), -3);
        Check.due("taken() after BAD alone", h.taken(), -1);
        h.returned();
        Check.due("taken() after a call that took nothing", h.taken(), 0);
        Harness thrown = new Harness(120);
        thrown.threw("E");
        Check.due("taken() after a threw() that took nothing", thrown.taken(), 0);
        Harness tooLong = new Harness(120).withFields(0, "O0O0O0O0").withParameters("O0");
        Check.due("a LONG call", tooLong.returned(), -5);
        Check.due("taken() after it alone", tooLong.taken(), 0);
    }
}
