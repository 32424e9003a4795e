import java.lang.reflect.Constructor;
import java.lang.reflect.Field;
import java.lang.reflect.Method;
import java.lang.reflect.Modifier;
import java.util.Set;
import java.util.TreeSet;

/** The public face, and promise 1: a new object. */
public final class FaceTest {
    public static void main(String[] args) {
        faceIsTheDocuments();
        constantsHaveTheirValues();
        newObjectIsEmpty();
        widthIsClamped();
        objectsAreApart();
        Check.end();
    }

    private static void faceIsTheDocuments() {
        Set<String> visible = new TreeSet<>();
        for (Field f : TestEmitter.class.getDeclaredFields()) {
            if (!Modifier.isPrivate(f.getModifiers())) {
                visible.add(f.getName());
            }
        }
        for (Method m : TestEmitter.class.getDeclaredMethods()) {
            if (!Modifier.isPrivate(m.getModifiers())) {
                visible.add(m.getReturnType() + " " + m.getName() + m.getParameterCount());
            }
        }
        for (Constructor<?> c : TestEmitter.class.getDeclaredConstructors()) {
            visible.add("new" + c.getParameterCount());
        }
        Check.due("the face", visible.toString(), new TreeSet<>(Set.of("REFUSED", "FULL", "BAD", "SAME", "LONG",
            "new1", "int type1", "int fields1", "int parameters0", "int result0", "int data1", "int clear0",
            "int returned0", "int threw0", "int taken0", "int drop0", "int emit0", "int at1", "int line1",
            "int count1")).toString());
        Check.due("the class is final", Modifier.isFinal(TestEmitter.class.getModifiers()) ? 1 : 0, 1);
    }

    private static void constantsHaveTheirValues() {
        Check.due("REFUSED", TestEmitter.REFUSED, -1);
        Check.due("FULL", TestEmitter.FULL, -2);
        Check.due("BAD", TestEmitter.BAD, -3);
        Check.due("SAME", TestEmitter.SAME, -4);
        Check.due("LONG", TestEmitter.LONG, -5);
    }

    private static void newObjectIsEmpty() {
        TestEmitter x = new TestEmitter(80);
        for (int what = 0; what <= 7; what++) {
            Check.due("count(" + what + ") of a new object", x.count(what), 0);
        }
        Check.due("at(0) of a new object", x.at(0), -1);
        Check.due("line(0) of a new object", x.line(0), -1);
        Check.due("taken() of a new object", x.taken(), -1);
        Check.due("clear() of a new object", x.clear(), 0);
        Check.due("drop() of a new object", x.drop(), 0);
        Check.due("PARAMETERS and RESULT of a new object", Harness.bodyOf("", "V"), "Target.run();\n");
        Check.due("FIELDS of a new object", Harness.literalOf("[O3", 1), "new C3[] {new C3()}");
    }

    private static void widthIsClamped() {
        for (int width : new int[] {Integer.MIN_VALUE, -1, 0, 39, 40}) {
            Check.due("width " + width + ", a line of 40", brokenShort(width, 1000000), 0);
            Check.due("width " + width + ", a line of 41", brokenShort(width, 10000000), 1);
        }
        Check.due("width 41, a line of 41", brokenShort(41, 10000000), 0);
        Check.due("width 41, a line of 42", brokenShort(41, 100000000), 1);
        Check.due("width 119, a line of 119", brokenLong(119, 10), 0);
        Check.due("width 119, a line of 120", brokenLong(119, 100), 1);
        for (int width : new int[] {120, 121, 999, Integer.MAX_VALUE}) {
            Check.due("width " + width + ", a line of 120", brokenLong(width, 100), 0);
            Check.due("width " + width + ", a line of 121", brokenLong(width, 1000), 1);
        }
    }

    /** How many lines are broken off a body line of 33 characters, with the 8 blanks, and the last int's. */
    private static int brokenShort(int width, int last) {
        Harness h = new Harness(width).parameters("II");
        h.returned(1000000000, last);
        h.emitter.emit();
        return h.emitter.count(6);
    }

    /** How many lines are broken off a body line of 117 characters, with the 8 blanks, and the last int's. */
    private static int brokenLong(int width, int last) {
        int n = 1000000000;
        Harness h = new Harness(width).parameters("[I[II");
        h.returned(3, n, n, n, 3, n, n, n, last);
        h.emitter.emit();
        return h.emitter.count(6);
    }

    private static void objectsAreApart() {
        TestEmitter one = new TestEmitter(40);
        TestEmitter other = new TestEmitter(40);
        one.type('I');
        one.data(1);
        one.returned();
        Check.due("typed in the other object", other.count(1), 0);
        Check.due("DATA in the other object", other.count(2), 0);
        Check.due("TESTS in the other object", other.count(0), 0);
    }
}
