import java.io.IOException;
import java.lang.reflect.Method;
import java.nio.file.Files;
import java.nio.file.Path;
import java.util.ArrayList;
import java.util.Arrays;
import java.util.List;

/** The document's promises and terms, word by word: each is quoted by a test, and each quotation is the document's. */
public final class SentencesTest {
    private static final Path DOCUMENT = Path.of("../shared/DOC.md");
    private static final Class<?>[] TESTS = {FaceTest.class, TypedTextTest.class, DataTest.class, BuildingTest.class,
        LiteralTest.class, TrialTest.class, TextTest.class, BreakingTest.class};
    private static final int PROMISES = 15;

    public static void main(String[] args) throws IOException {
        if (!Files.exists(DOCUMENT)) {
            System.out.println("no " + DOCUMENT + " here: what the tests quote is not compared with it");
            return;
        }
        String document = Files.readString(DOCUMENT);
        List<Sentence> quoted = quotedByTests();
        for (int promise = 1; promise <= PROMISES; promise++) {
            dueInFull(document, "Promise " + promise, quoted);
        }
        dueInFull(document, "Terms", quoted);
        dueInPart(document, "What it is", quoted);
        Check.end();
    }

    private static List<Sentence> quotedByTests() {
        List<Sentence> quoted = new ArrayList<>();
        for (Class<?> tests : TESTS) {
            for (Method test : tests.getDeclaredMethods()) {
                if (test.isAnnotationPresent(Sentence.class)) {
                    quoted.add(test.getAnnotation(Sentence.class));
                }
            }
        }
        return quoted;
    }

    /** The heading under which the words stand. */
    private static String heading(Sentence sentence) {
        return sentence.under().isEmpty() ? "Promise " + sentence.promise()[0] : sentence.under().replaceAll(",.*", "");
    }

    private static void dueInFull(String document, String heading, List<Sentence> quoted) {
        String left = dueInPart(document, heading, quoted);
        Check.due("what no test quotes under " + heading, left.strip(), "");
    }

    /** Every quotation from under the heading is there; the words that are in none are answered. */
    private static String dueInPart(String document, String heading, List<Sentence> quoted) {
        String words = wordsUnder(document, heading);
        boolean[] covered = new boolean[words.length()];
        for (Sentence sentence : quoted) {
            if (heading(sentence).equals(heading)) {
                String says = sentence.says().replaceAll("\\s+", " ");
                int place = words.indexOf(says);
                Check.due("under " + heading + ": " + says, place < 0 ? "not there" : "there", "there");
                Arrays.fill(covered, Math.max(0, place), place < 0 ? 0 : place + says.length(), true);
            }
        }
        StringBuilder left = new StringBuilder();
        for (int i = 0; i < words.length(); i++) {
            left.append(covered[i] ? ' ' : words.charAt(i));
        }
        return left.toString().replaceAll("\\s+", " ");
    }

    /** What stands between the heading and the next, without the signature and the marks of code. */
    private static String wordsUnder(String document, String heading) {
        for (String section : document.split("(?m)^## ")) {
            String[] parts = section.split("\n", 2);
            if (parts[0].replaceAll(":.*", "").equals(heading)) {
                return parts[1].replaceAll("```(text)?", " ").replaceAll("`[^`]*`:", " ").replaceAll("\\s+", " ");
            }
        }
        return "";
    }
}
