/** The terms of BREAKING, which promise 12 rests on. */
public final class BreakingTest {
    public static void main(String[] args) {
        Check.sentences(BreakingTest.class);
    }

    private static String broken(int width, String parameters, int... row) {
        return new Harness(width).withParameters(parameters).bodyFrom(row);
    }

    @Sentence(promise = 12, under = "Terms, breaking",
        says = "BREAKING: as long as a line has more than WIDTH characters (the 10 not counted):")
    static void lineOfTheWidthStays() {
        for (int width = 40; width <= 42; width++) {
            int last = (int) Math.pow(10, width - 34);
            Check.due("a line of " + width + " to " + width, broken(width, "II", 1000000000, last),
                "Target.run(1000000000, " + last + ");\n");
            Check.due("a line of one more to " + width, broken(width, "II", 1000000000, 10 * last),
                "Target.run(1000000000,\n        " + 10 * last + ");\n");
        }
        int n = 1000000000;
        String most = "Target.run(new int[] {1000000000, 1000000000, 1000000000}, new int[] {1000000000, 1000000000, 1000000000},";
        Check.due("a line of 120 to 120", broken(120, "[I[II", 3, n, n, n, 3, n, n, n, 100), most + " 100);\n");
        Check.due("a line of 121 to 120", broken(120, "[I[II", 3, n, n, n, 3, n, n, n, 1000), most + "\n        1000);\n");
    }

    @Sentence(promise = 12, under = "Terms, breaking", says = "at the last comma that is followed by a blank,")
    static void breaksAtTheLastComma() {
        Check.due("the last of all", broken(40, "IIII", 123, 765, 123, 12345678),
            "Target.run(123, 765, 123,\n        12345678);\n");
        Check.due("the second of three", broken(40, "IIII", 1234567, 7654321, 12345678, 7),
            "Target.run(1234567, 7654321,\n        12345678, 7);\n");
        Check.due("the first of two", broken(40, "[I", 3, 1234567, 7654321, 7),
            "Target.run(new int[] {1234567,\n        7654321, 7});\n");
    }

    @Sentence(promise = 12, under = "Terms, breaking", says = "is not inside of a '..' or \"..\",")
    static void quotedCommasBreakNothing() {
        Check.due("a comma and a blank in a text", broken(40, "ITT", 123456789, 4, ',', ' ', ',', ' ', 4, ',', ' ', ',', ' '),
            "Target.run(123456789, \", , \",\n        \", , \");\n");
        Check.due("no other comma", broken(40, "TI", 4, ',', ' ', 1, 1, 7),
            "Target.run(\", \\u0001\\u0001\", 7);\n");
        Check.due("no other comma below the width", broken(40, "TII", 4, 1, ',', ' ', 1, 1000000000, 1),
            "Target.run(\"\\u0001, \\u0001\",\n        1000000000, 1);\n");
        Check.due("a comma at 38 as a char", broken(40, "IICI", 1234567, 1234567, ',', 12345),
            "Target.run(1234567, 1234567,\n        ',', 12345);\n");
        Check.due("commas as chars", broken(40, "CCCC", ',', ',', ',', 1),
            "Target.run(',', ',', ',',\n        '\\u0001');\n");
    }

    @Sentence(promise = 12, under = "Terms, breaking", says = "is not inside of a '..' or \"..\",")
    static void quotesEndWhereTheyEnd() {
        Check.due("a backslash at the end", broken(40, "TTI", 1, '\\', 4, ',', ' ', ',', ' ', 1000000000),
            "Target.run(\"\\\\\", \", , \",\n        1000000000);\n");
        Check.due("a quote before a comma", broken(40, "ITI", 1, 4, '"', ',', ' ', '"', 1000000000),
            "Target.run(1, \"\\\", \\\"\",\n        1000000000);\n");
        Check.due("a quote and a comma, and an end behind them", broken(40, "ITI", 1, 4, '"', ',', ' ', 1, 1234567),
            "Target.run(1, \"\\\", \\u0001\",\n        1234567);\n");
        Check.due("quoted chars", broken(40, "CCCC", '\'', '\\', '\'', '"'),
            "Target.run('\\'', '\\\\', '\\'',\n        '\"');\n");
    }

    @Sentence(promise = 12, under = "Terms, breaking", says = "is not inside of a '..' or \"..\",")
    static void otherQuotesAreNoQuotes() {
        Check.due("a ' in a text", broken(40, "TTI", 1, '\'', 3, ',', ' ', '\'', 1000000000),
            "Target.run(\"'\", \", '\",\n        1000000000);\n");
        Check.due("a \" as a char", broken(40, "CTI", '"', 4, ',', ' ', ',', ' ', 1000000000),
            "Target.run('\"', \", , \",\n        1000000000);\n");
    }

    @Sentence(promise = 12, under = "Terms, breaking", says = "and has a place (from 0) below WIDTH")
    static void commaAtTheWidthIsTooFar() {
        Check.due("a comma at 39 to 40", broken(40, "III", 1000000000, 12345678, 5),
            "Target.run(1000000000, 12345678,\n        5);\n");
        Check.due("a comma at 40 to 40", broken(40, "III", 1000000000, 123456789, 5),
            "Target.run(1000000000,\n        123456789, 5);\n");
        Check.due("a comma at 40 to 41", broken(41, "III", 1000000000, 123456789, 5),
            "Target.run(1000000000, 123456789,\n        5);\n");
        Check.due("a comma at 39 of what is broken off", broken(40, "IIII", 1000000000, 1000000000, -1000000000, 5),
            "Target.run(1000000000,\n        1000000000, -1000000000,\n        5);\n");
        Check.due("a comma at 40 of what is broken off", broken(40, "IIII", 1000000000, -1000000000, -1000000000, 5),
            "Target.run(1000000000,\n        -1000000000,\n        -1000000000, 5);\n");
        Check.due("only a comma behind the width", broken(40, "TI", 4, 1, 1, 1, 1, 7),
            "Target.run(\"\\u0001\\u0001\\u0001\\u0001\", 7);\n");
    }

    @Sentence(promise = 12, under = "Terms, breaking", says = "and above the line's leading blanks,")
    static void commaBehindOneCharacterIsFarEnough() {
        Check.due("a comma at 17, behind 16 blanks", broken(40, "IIIT", 12345678, 12345678, 3, 4, 1, 1, 1, 1),
            "Target.run(12345678, 12345678,\n        3,\n        \"\\u0001\\u0001\\u0001\\u0001\");\n");
    }

    @Sentence(promise = 12, under = "Terms, breaking",
        says = "the line ends behind the comma, and the blank is replaced by the start of the next line:")
    static void commaStaysAndBlankGoes() {
        Harness h = new Harness(40).withParameters("II");
        h.returnedFrom(1000000000, 10000000);
        Check.due("THE TEXT of a line of 41", h.emitted(), "public class TargetTest {\n    @Test\n    public void test0() {\n"
            + "        Target.run(1000000000,\n                10000000);\n    }\n}\n");
    }

    @Sentence(promise = 12, under = "Terms, breaking",
        says = "the leading blanks of the line as the body has it (with the 8) and 8 more;")
    static void blanksAreThoseOfTheBodyAnd8() {
        int n = 123456789;
        Check.due("all broken off have the same blanks", broken(40, "[I[I", 3, n, n, n, 3, n, n, n),
            "Target.run(new int[] {123456789,\n        123456789, 123456789},\n        new int[] {123456789,\n"
            + "        123456789, 123456789});\n");
        Harness h = new Harness(40).withParameters("III").withData(n, n, n);
        h.threw("E");
        Check.due("a CALL in a try has 4 more", h.onlyBody(), "try {\n    Target.run(123456789,\n            123456789,\n"
            + "            123456789);\n    fail(\"E\");\n} catch (E e) {\n}\n");
    }

    @Sentence(promise = 12, under = "Terms, breaking", says = "if there is no such comma the line stays.")
    static void lineWithoutCommaStays() {
        String name = "abcdefghijklmnopqrstuvwxyzabcdefghijklmn";
        Harness h = new Harness(40);
        h.threw(name);
        Check.due("a long NAME", h.onlyBody(),
            "try {\n    Target.run();\n    fail(\"" + name + "\");\n} catch (" + name + " e) {\n}\n");
        h.emit();
        Check.due("its broken lines", h.count(6), 0);
        Check.due("a rest without a comma near enough", broken(40, "ITI", 3, 4, 1, 1, 1, 1, 7),
            "Target.run(3,\n        \"\\u0001\\u0001\\u0001\\u0001\", 7);\n");
    }

    @Sentence(promise = 12, under = "Terms, breaking", says = "What is broken off is broken on in the same way.")
    static void whatIsBrokenOffIsBrokenOn() {
        Check.due("a rest of 40", broken(40, "III", 1000000000, 1000000000, 1000000000),
            "Target.run(1000000000,\n        1000000000, 1000000000);\n");
        Check.due("a rest of 41", broken(40, "III", 1000000000, 1000000000, -1000000000),
            "Target.run(1000000000,\n        1000000000,\n        -1000000000);\n");
        Check.due("a comma in a text of a rest", broken(40, "ITTI", 1000000000, 4, ',', ' ', 1, 1, 4, ',', ' ', ',', ' ', 7),
            "Target.run(1000000000,\n        \", \\u0001\\u0001\",\n        \", , \", 7);\n");
    }
}
