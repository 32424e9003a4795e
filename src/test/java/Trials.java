import java.util.Arrays;

/** States that several tests begin with. */
final class Trials {
    private Trials() {
    }

    /** An object in which everything has been set: CLASSES, PARAMETERS, RESULT, DATA, TESTS and THE TEXT. */
    static Harness settled() {
        Harness h = new Harness(60).withFields(0, "I").withFields(1, "ZT").withFields(2, "O0").withFields(3, "[J");
        h.withParameters("O1C").withResult("I");
        h.returnedFrom(1, 1, 0, 'a', 3);
        h.threw("Oops");
        h.emit();
        h.returnedFrom(-1, 'b', 4, 5, 6);
        return h;
    }

    /** An object with 20 TESTS, every second one from threw. */
    static Harness full() {
        Harness h = new Harness(120).withParameters("I");
        for (int i = 0; i < 20; i += 2) {
            h.returnedFrom(i);
            h.threw("E");
        }
        return h;
    }

    /**
     * PARAMETERS and DATA for which returned(), with the RESULT V, has a body of so many characters, its
     * line end among them: texts of \\u0001, which take six characters each, and of p for the rest.
     */
    static Harness withBodyOf(int length) {
        Harness h = new Harness(120).withParameters("[T[T[TI");
        int fixed = "Target.run(, , , 1);\n".length() + 3 * "new String[] {\"\", \"\", \"\"}".length();
        int missing = length - fixed;
        int[] row = new int[49];
        int n = 0;
        for (int text = 0; text < 9; text++) {
            if (text % 3 == 0) {
                row[n++] = 3;
            }
            int wide = Math.min(4, missing / 6);
            int plain = Math.min(4 - wide, missing - 6 * wide);
            row[n++] = wide + plain;
            for (int i = 0; i < wide + plain; i++) {
                row[n++] = i < wide ? 1 : 'p';
            }
            missing -= 6 * wide + plain;
        }
        row[n] = (int) Math.pow(10, missing);
        return h.withData(Arrays.copyOf(row, n + 1));
    }
}
