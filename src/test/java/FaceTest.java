import java.lang.reflect.Constructor;
import java.lang.reflect.Field;
import java.lang.reflect.Member;
import java.lang.reflect.Method;
import java.lang.reflect.Modifier;
import java.util.Set;
import java.util.TreeSet;

/** The public face, how long an object serves, and promise 1: a new object. */
public final class FaceTest {
    public static void main(String[] args) {
        faceIsTheDocuments();
        constantsHaveTheirValues();
        Check.sentences(FaceTest.class);
    }

    private static void faceIsTheDocuments() {
        Set<String> visible = new TreeSet<>();
        for (Field f : TestEmitter.class.getDeclaredFields()) {
            addVisible(visible, f, f.toString());
        }
        for (Method m : TestEmitter.class.getDeclaredMethods()) {
            addVisible(visible, m, m.toString());
        }
        for (Constructor<?> c : TestEmitter.class.getDeclaredConstructors()) {
            addVisible(visible, c, c.toString());
        }
        Check.due("the face", visible.toString(), faceOfTheDocument().toString());
        Check.due("the class", Modifier.toString(TestEmitter.class.getModifiers()), "public final");
        Check.due("what the class extends", TestEmitter.class.getSuperclass().getName(), "java.lang.Object");
        Check.due("how many interfaces it implements", TestEmitter.class.getInterfaces().length, 0);
    }

    private static void addVisible(Set<String> visible, Member member, String face) {
        if (!Modifier.isPrivate(member.getModifiers())) {
            visible.add(face.replace("TestEmitter.", ""));
        }
    }

    private static Set<String> faceOfTheDocument() {
        Set<String> face = new TreeSet<>();
        face.add("public TestEmitter(int)");
        for (String name : new String[] {"REFUSED", "FULL", "BAD", "SAME", "LONG"}) {
            face.add("public static final int " + name);
        }
        for (String name : new String[] {"type", "fields", "data", "at", "line", "count"}) {
            face.add("public int " + name + "(int)");
        }
        for (String name : new String[] {"parameters", "result", "clear", "returned", "threw", "taken", "drop", "emit"}) {
            face.add("public int " + name + "()");
        }
        return face;
    }

    private static void constantsHaveTheirValues() {
        Check.due("REFUSED", TestEmitter.REFUSED, -1);
        Check.due("FULL", TestEmitter.FULL, -2);
        Check.due("BAD", TestEmitter.BAD, -3);
        Check.due("SAME", TestEmitter.SAME, -4);
        Check.due("LONG", TestEmitter.LONG, -5);
    }

    @Sentence(promise = 1, under = "What it is", says = "An object is used for at most 512 calls after it has been made;")
    static void call512IsAnsweredAsDue() {
        Harness h = new Harness(40).withParameters("I");
        int added = 0;
        while (h.callsLeft() > 4) {
            h.clear();
            h.data(h.callsLeft());
            if (added == 20) {
                Check.due("drop() with " + h.callsLeft() + " calls left", h.drop(), 20);
                added = 0;
            } else {
                Check.due("returned() with " + h.callsLeft() + " calls left", h.returned(), added++);
            }
        }
        while (h.callsLeft() > 2) {
            h.clear();
        }
        int length = h.emit();
        Check.due("the 512th call", h.at(length - 1), '\n');
    }

    @Sentence(promise = 1, says = "width: WIDTH, clamped to 40 .. 120.")
    static void widthBelow40Is40() {
        for (int width : new int[] {Integer.MIN_VALUE, Integer.MIN_VALUE + 1, -1, 0, 1, 39, 40}) {
            Check.due("width " + width + ", broken of a line of 40", brokenShort(width, 1000000), 0);
            Check.due("width " + width + ", broken of a line of 41", brokenShort(width, 10000000), 1);
        }
        Check.due("width 41, broken of a line of 41", brokenShort(41, 10000000), 0);
        Check.due("width 41, broken of a line of 42", brokenShort(41, 100000000), 1);
    }

    @Sentence(promise = 1, says = "width: WIDTH, clamped to 40 .. 120.")
    static void widthAbove120Is120() {
        Check.due("width 119, broken of a line of 119", brokenLong(119, 10), 0);
        Check.due("width 119, broken of a line of 120", brokenLong(119, 100), 1);
        for (int width : new int[] {120, 121, 999, 65576, Integer.MAX_VALUE}) {
            Check.due("width " + width + ", broken of a line of 120", brokenLong(width, 100), 0);
            Check.due("width " + width + ", broken of a line of 121", brokenLong(width, 1000), 1);
        }
    }

    /** How many lines are broken off a body line of 33 characters, with the 8 blanks, and the last int's. */
    private static int brokenShort(int width, int last) {
        return broken(new Harness(width).withParameters("II").withData(1000000000, last));
    }

    /** How many lines are broken off a body line of 117 characters, with the 8 blanks, and the last int's. */
    private static int brokenLong(int width, int last) {
        int n = 1000000000;
        return broken(new Harness(width).withParameters("[I[II").withData(3, n, n, n, 3, n, n, n, last));
    }

    private static int broken(Harness h) {
        h.returned();
        h.emit();
        return h.count(6);
    }

    @Sentence(promise = 1, says = "Nothing typed,")
    static void newObjectHasNothingTyped() {
        Check.due("count(1) of a new object", new Harness(40).count(1), 0);
        Check.due("the first type()", new Harness(40).type('I'), 1);
        Check.due("parameters() of a new object", new Harness(40).parameters(), 0);
        Check.due("threw() of a new object", new Harness(40).threw(), -3);
        Harness other = new Harness(40).typed("I");
        Check.due("count(1) of a new object beside one with a letter", new Harness(40).count(1), other.count(1) - 1);
    }

    @Sentence(promise = 1, says = "no DATA and TESTS;")
    static void newObjectHasNoDataAndTests() {
        Check.due("count(2) of a new object", new Harness(40).count(2), 0);
        Check.due("clear() of a new object", new Harness(40).clear(), 0);
        Check.due("the first data()", new Harness(40).data(0), 1);
        Check.due("count(0) of a new object", new Harness(40).count(0), 0);
        Check.due("count(7) of a new object", new Harness(40).count(7), 0);
        Check.due("drop() of a new object", new Harness(40).drop(), 0);
        Check.due("the first returned()", new Harness(40).returned(), 0);
    }

    @Sentence(promise = 1, says = "THE TEXT is empty.")
    static void newObjectsTextIsEmpty() {
        for (int what = 3; what <= 6; what++) {
            Check.due("count(" + what + ") of a new object", new Harness(40).count(what), 0);
        }
        Check.due("at(0) of a new object", new Harness(40).at(0), -1);
        Check.due("line(0) of a new object", new Harness(40).line(0), -1);
    }
}
