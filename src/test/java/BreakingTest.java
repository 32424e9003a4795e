/** BREAKING, which promise 12 rests on. */
public final class BreakingTest {
    public static void main(String[] args) {
        lineOfTheWidthStays();
        breaksAtTheLastCommaBelowTheWidth();
        commaAtTheWidthIsTooFar();
        continuesWithTheBodysBlanks();
        continuesInsideOfTry();
        lineWithoutCommaStays();
        laterCommasBreakNothing();
        quotedCommasBreakNothing();
        quotesWithBackslashesEndWhereTheyEnd();
        otherQuotesInQuotes();
        Check.end();
    }

    private static String broken(int width, String parameters, String result, int... row) {
        Harness h = new Harness(width).parameters(parameters).result(result);
        h.returned(row);
        return h.onlyBody();
    }

    private static void lineOfTheWidthStays() {
        Check.due("a line of 40", broken(40, "II", "V", 1000000000, 1000000), "Target.run(1000000000, 1000000);\n");
        Check.due("a line of 41", broken(40, "II", "V", 1000000000, 10000000),
            "Target.run(1000000000,\n        10000000);\n");
    }

    private static void breaksAtTheLastCommaBelowTheWidth() {
        // The second comma of this line has the place 39.
        Check.due("a comma at 39", broken(40, "III", "V", 1000000000, 12345678, 5),
            "Target.run(1000000000, 12345678,\n        5);\n");
        Check.due("a comma at 39 of 41", broken(41, "III", "V", 1000000000, 12345678, 5),
            "Target.run(1000000000, 12345678,\n        5);\n");
    }

    private static void commaAtTheWidthIsTooFar() {
        Check.due("a comma at 40", broken(40, "III", "V", 1000000000, 123456789, 5),
            "Target.run(1000000000,\n        123456789, 5);\n");
        Check.due("a comma at 40 of 41", broken(41, "III", "V", 1000000000, 123456789, 5),
            "Target.run(1000000000, 123456789,\n        5);\n");
    }

    private static void continuesWithTheBodysBlanks() {
        int n = 123456789;
        Check.due("four lines", broken(40, "[I[I", "V", 3, n, n, n, 3, n, n, n), "Target.run(new int[] {123456789,\n"
            + "        123456789, 123456789},\n        new int[] {123456789,\n        123456789, 123456789});\n");
    }

    private static void continuesInsideOfTry() {
        int n = 1234567890;
        Harness h = new Harness(40).parameters("III").data(n, n, n);
        h.threw("E");
        Check.due("a call in a try", h.onlyBody(), "try {\n    Target.run(1234567890,\n            1234567890,\n"
            + "            1234567890);\n    fail(\"E\");\n} catch (E e) {\n}\n");
    }

    private static void lineWithoutCommaStays() {
        String name = "abcdefghijklmnopqrstuvwxyzabcdefghijklmn";
        Harness h = new Harness(40);
        h.threw(name);
        Check.due("a long NAME", h.onlyBody(),
            "try {\n    Target.run();\n    fail(\"" + name + "\");\n} catch (" + name + " e) {\n}\n");
        h.emitter.emit();
        Check.due("its broken lines", h.emitter.count(6), 0);
        Check.due("its longest line", h.emitter.count(5), 62);
    }

    private static void laterCommasBreakNothing() {
        Check.due("only a comma behind the width", broken(40, "TI", "V", 4, 1, 1, 1, 1, 7),
            "Target.run(\"\\u0001\\u0001\\u0001\\u0001\", 7);\n");
        Check.due("a rest without a comma near enough", broken(40, "ITI", "V", 3, 4, 1, 1, 1, 1, 7),
            "Target.run(3,\n        \"\\u0001\\u0001\\u0001\\u0001\", 7);\n");
    }

    private static void quotedCommasBreakNothing() {
        Check.due("a comma and a blank in a text", broken(40, "ITT", "V", 123456789, 4, ',', ' ', ',', ' ', 4, ',', ' ', ',', ' '),
            "Target.run(123456789, \", , \",\n        \", , \");\n");
        Check.due("no other comma", broken(40, "TI", "V", 4, ',', ' ', 1, 1, 7),
            "Target.run(\", \\u0001\\u0001\", 7);\n");
        Check.due("no other comma below the width", broken(40, "TII", "V", 4, 1, ',', ' ', 1, 1000000000, 1),
            "Target.run(\"\\u0001, \\u0001\",\n        1000000000, 1);\n");
        Check.due("a comma in a char", broken(40, "CCCC", "V", ',', ',', ',', ','),
            "Target.run(',', ',', ',', ',');\n");
    }

    private static void quotesWithBackslashesEndWhereTheyEnd() {
        Check.due("a backslash at the end", broken(40, "TTI", "V", 1, '\\', 4, ',', ' ', ',', ' ', 1000000000),
            "Target.run(\"\\\\\", \", , \",\n        1000000000);\n");
        Check.due("a quote before a comma", broken(40, "ITI", "V", 1, 4, '"', ',', ' ', '"', 1000000000),
            "Target.run(1, \"\\\", \\\"\",\n        1000000000);\n");
        Check.due("a quote and a comma in a text, and an end behind it", broken(40, "ITI", "V", 1, 4, '"', ',', ' ', 1, 1234567),
            "Target.run(1, \"\\\", \\u0001\",\n        1234567);\n");
        Check.due("quoted chars", broken(40, "CCCC", "V", '\'', '\\', '\'', '"'),
            "Target.run('\\'', '\\\\', '\\'',\n        '\"');\n");
    }

    private static void otherQuotesInQuotes() {
        Check.due("a ' in a text", broken(40, "TTI", "V", 1, '\'', 3, ',', ' ', '\'', 1000000000),
            "Target.run(\"'\", \", '\",\n        1000000000);\n");
        Check.due("a \" as a char", broken(40, "CTI", "V", '"', 4, ',', ' ', ',', ' ', 1000000000),
            "Target.run('\"', \", , \",\n        1000000000);\n");
    }
}
