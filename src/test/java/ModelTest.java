import java.util.Random;

/** All promises at once: long runs of calls, always the same ones, answered as the Model answers them. */
public final class ModelTest {
    private static final int RUNS = 3000;
    private static final int LONGEST_STEP = 22;
    private static final String[] ROWS = {"", "I", "T", "[T", "O0", "O0O1", "TT", "CTC", "[[C", "[[[Z", "IJFD", "ZBCS", "O3[O2T",
        "O1O1O1O1", "[O0[[O1", "[[[O2", "FF", "DJ", "O0O0", "TCTC", "IIII", "[I[I", "[[T", "V", "[[[[I", "IIIII", "O4", "x"};
    private static final String[] RESULTS = {"V", "Z", "F", "D", "T", "I", "J", "O0", "O3", "[F", "[[T", "[O1", "C", "B", "S", "", "II", "O"};
    private static final String[] NAMES = {"E", "Error", "NullPointerException", "", "a b", "Zz", "E9"};
    private static final int[] CHARACTERS = {',', ' ', '\'', '"', '\\', '\n', '\t', '\r', 'a', '~', 127, 31, 0xFFFF};

    private final Random random;
    private final Model model;
    private final TestEmitter emitter;
    private final int run;
    private int calls = 0;

    private ModelTest(int run) {
        this.run = run;
        random = new Random(run);
        int width = random.nextInt(10) == 0 ? random.nextInt() : 30 + random.nextInt(100);
        model = new Model(width);
        emitter = new TestEmitter(width);
    }

    public static void main(String[] args) {
        for (int run = 0; run < RUNS && Check.allDue(); run++) {
            new ModelTest(run).play();
        }
        Check.end();
    }

    private void play() {
        int reading = random.nextInt(250);
        while (callsLeft() > LONGEST_STEP + reading && Check.allDue()) {
            step();
        }
        due("emit", emitter.emit(), model.emit());
        int from = random.nextInt(Math.max(1, model.text().length() - callsLeft()));
        for (int i = from; callsLeft() > 0; i++) {
            due("at(" + i + ")", emitter.at(i), model.at(i));
        }
    }

    /** What an object answers behind its 512th call is free, so it is not asked. */
    private int callsLeft() {
        return Harness.MOST_CALLS - calls;
    }

    private void due(String call, int got, int want) {
        calls++;
        Check.due("run " + run + ", call " + calls + ": " + call, got, want);
    }

    private void step() {
        switch (random.nextInt(16)) {
            case 0: typed(pick(ROWS)); due("parameters", emitter.parameters(), model.parameters()); break;
            case 1: typed(pick(RESULTS)); due("result", emitter.result(), model.result()); break;
            case 2: typed(pick(ROWS)); fields(random.nextInt(4)); break;
            case 3: fields(random.nextInt(7) - 1); break;
            case 4: typed(String.valueOf((char) random.nextInt(130))); break;
            case 5: due("clear", emitter.clear(), model.clear()); break;
            case 6: case 7: dataRow(); break;
            case 8: case 9: case 10: due("returned", emitter.returned(), model.returned()); taken(); break;
            case 11: typed(pick(NAMES)); due("threw", emitter.threw(), model.threw()); taken(); break;
            case 12: due("emit", emitter.emit(), model.emit()); break;
            case 13: look(); break;
            case 14: maybeDrop(); break;
            default: counts(); break;
        }
    }

    private void typed(String s) {
        for (int i = 0; i < s.length(); i++) {
            due("type", emitter.type(s.charAt(i)), model.type(s.charAt(i)));
        }
    }

    private void fields(int k) {
        due("fields(" + k + ")", emitter.fields(k), model.fields(k));
    }

    private void dataRow() {
        int n = random.nextInt(12);
        for (int i = 0; i < n; i++) {
            int x = number();
            due("data(" + x + ")", emitter.data(x), model.data(x));
        }
    }

    private int number() {
        switch (random.nextInt(8)) {
            case 0: return random.nextInt();
            case 1: return random.nextInt(40) - 20;
            case 2: return random.nextInt(5) == 0 ? Integer.MIN_VALUE : -1;
            case 3: case 4: return CHARACTERS[random.nextInt(CHARACTERS.length)];
            default: return random.nextInt(6);
        }
    }

    private void taken() {
        due("taken", emitter.taken(), model.taken());
    }

    private void look() {
        int i = random.nextInt(model.text().length() + 3) - 1;
        due("at(" + i + ")", emitter.at(i), model.at(i));
        int k = random.nextInt(model.count(4) + 3) - 1;
        due("line(" + k + ")", emitter.line(k), model.line(k));
    }

    private void maybeDrop() {
        if (random.nextInt(6) == 0) {
            due("drop", emitter.drop(), model.drop());
        }
    }

    private void counts() {
        for (int what = -1; what <= 8; what++) {
            due("count(" + what + ")", emitter.count(what), model.count(what));
        }
    }

    private String pick(String[] from) {
        return from[random.nextInt(from.length)];
    }
}
