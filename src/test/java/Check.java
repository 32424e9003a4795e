import java.lang.reflect.InvocationTargetException;
import java.lang.reflect.Method;
import java.lang.reflect.Modifier;
import java.util.Arrays;
import java.util.Comparator;

/** Counts the answers of one test class that are not as due, and ends it with exit code 1 if there were any. */
final class Check {
    private static int wrong = 0;
    private static String about = "";

    private Check() {
    }

    /** Runs every test of the class: its methods that are not private, each of which says its sentence. */
    static void sentences(Class<?> tests) {
        Method[] methods = tests.getDeclaredMethods();
        Arrays.sort(methods, Comparator.comparing(Method::getName));
        for (Method test : methods) {
            if (!Modifier.isPrivate(test.getModifiers()) && !test.getName().equals("main")) {
                run(test);
            }
        }
        end();
    }

    private static void run(Method test) {
        Sentence sentence = test.getAnnotation(Sentence.class);
        if (sentence == null) {
            tell(test.getName(), "for no sentence", "a sentence");
            return;
        }
        about = test.getName() + " (promise " + Arrays.toString(sentence.promise()).replaceAll("[\\[\\]]", "")
            + (sentence.under().isEmpty() ? "" : ", " + sentence.under()) + ": " + sentence.says() + ") ";
        try {
            test.invoke(null);
        } catch (InvocationTargetException e) {
            tell("a call", String.valueOf(e.getCause()), "no exception");
        } catch (IllegalAccessException e) {
            tell("the test", String.valueOf(e), "a run of it");
        }
        about = "";
    }

    static void due(String what, long got, long want) {
        if (got != want) {
            tell(what, String.valueOf(got), String.valueOf(want));
        }
    }

    static void due(String what, String got, String want) {
        if (!got.equals(want)) {
            tell(what, got, want);
        }
    }

    static boolean allDue() {
        return wrong == 0;
    }

    static void end() {
        if (wrong != 0) {
            System.out.println(wrong + " answers are not as due");
            System.exit(1);
        }
    }

    private static void tell(String what, String got, String want) {
        wrong++;
        System.out.println(about + what + " answered " + got + ", due is " + want);
    }
}
