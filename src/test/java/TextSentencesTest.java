/** THE TEXT, its LINES, NAMES, VALUES and THE KIND: each sentence of the document that names an edge, and its test. */
public final class TextSentencesTest {
    private static final Checks C = new Checks("TextSentencesTest");
    private static final Document D = new Document(C, "Graphs in texts:", "======== 2 READ");
    private static final int SIGN = 1, LONG = 2, KIND = 3, ORDER = 4, LIES = 7;
    private static final Class<?> INDEX = ArrayIndexOutOfBoundsException.class;
    private static final int W = 0, DECIMALS = 1, T = 2;

    public static void main(String[] args) {
        readToTheSame();
        sixHundredBytes();
        fiveHundredAndTwelveCalls();
        linesEnd();
        linesAndPlacesFromOne();
        blanksAndWords();
        comments();
        counts();
        heads();
        arcs();
        plainNames();
        quotedNames();
        missing();
        wholes();
        decimals();
        columns();
        guessedByTheFirstSign();
        guessedByPlainSigns();
        guessedKinds();
        D.end();
        C.end();
    }

    private static void sameAgain(String text) {
        GraphTexts x = Checks.reading(text);
        String written = Checks.written(x);
        GraphTexts y = Checks.reading(written);
        C.same("read to the same <" + text + ">", Checks.graph(y), Checks.graph(x));
        C.same("written to the same <" + text + ">", Checks.written(y), written);
    }

    private static void readToTheSame() {
        D.says("Graphs in texts: arcs between names with columns of values, heads that tell kinds or let them be guessed, "
            + "quoted names, comments that stay where they are, counts that may lie; the first wrong place told by line "
            + "and column; written in one normal form, which is read to the same.");
        sameAgain("");
        sameAgain("\n\n");
        sameAgain("#\n#  \n   # x");
        sameAgain("a b\n! 02 01\n# behind");
        sameAgain("% \"k k\" g\n% l g\n% m g\n# between\na b -5 1.50 -\nb a 1.5 -0.0 -\nb b \"-\" 7 -");
        sameAgain("\"\\\\\" \"\\\"\"\n\" \" \"a\"");
    }

    private static void sixHundredBytes() {
        D.says("======== 1 THE TEXT are bytes, 600 at most, empty at first.");
        GraphTexts x = new GraphTexts();
        C.same("empty at first", x.about(0), 0);
        for (int b = 0; b <= 255; b++) {
            C.same("byte " + b, x.feed(1, b), b + 1);
        }
        C.same("599 bytes", Checks.feed(x, " ".repeat(343)), 599);
        C.same("600 bytes", x.feed(1, ' '), 600);
        C.same("601 bytes", x.feed(1, ' '), GraphTexts.FULL);
        C.same("still 600", x.about(0), 600);
        GraphTexts most = Checks.reading("#" + " ".repeat(20) + "\n" + " ".repeat(575) + "a b");
        C.same("the 600th byte is read", Checks.nodeName(most, 1), "b");
    }

    private static void fiveHundredAndTwelveCalls() {
        D.says("An object is used for at most 512 calls after it has been made; what later calls answer is free.");
        GraphTexts x = new GraphTexts();
        for (int calls = 0; calls < 510; calls += 5) {
            C.same("call " + (calls + 1), x.feed(4, 0x6120620aL), 4);
            C.same("call " + (calls + 2), x.read(), 1);
            C.same("call " + (calls + 3), x.print(), 4);
            C.same("call " + (calls + 4), x.out(3), 10);
            C.same("call " + (calls + 5), x.node(1, 0), 'b');
        }
        C.same("call 511", x.feed(1, 'b'), 1);
        C.same("call 512", x.find(), 1);
    }

    private static void linesEnd() {
        D.says("Its LINES end with a byte 10 each (not counted in), the last one with THE TEXT (if that ends with 10, or is "
            + "empty, there is none behind).");
        C.right("a b\nc d", 2);
        C.right("a b\nc d\n", 2);
        C.right("a b\nc d\n\n", 2);
        C.right("", 0);
        C.right("\n", 0);
        C.wrong("a", SIGN, 1, 2);
        C.wrong("a\n", SIGN, 1, 2);
        C.wrong("a b\nc", SIGN, 2, 2);
        C.wrong("a b\nc\n", SIGN, 2, 2);
        C.right("#" + "x".repeat(20) + "\n", 0);
        GraphTexts x = Checks.reading("#xy\n#z");
        C.thrown("the 10 is no byte of a COMMENT", INDEX, () -> x.comment(0, 2));
        C.same("the last LINE without a 10", Checks.commentBytes(x, 1), "z");
        C.wrong("a b\r\nb a", SIGN, 1, 4);
    }

    private static void linesAndPlacesFromOne() {
        D.says("LINES are numbered from 1 on, so are the bytes of each (PLACES).");
        C.wrong("?", SIGN, 1, 1);
        C.wrong(" ?", SIGN, 1, 2);
        C.wrong("\n?", SIGN, 2, 1);
        C.wrong("a b\n\n b ?", SIGN, 3, 4);
        C.wrong(" ".repeat(599) + "?", SIGN, 1, 600);
        C.wrong("\n".repeat(599) + "?", SIGN, 600, 1);
        GraphTexts x = Checks.reading("a b\n\nb a");
        C.same("LINE of ARC 0", x.arc(0, 2), 1);
        C.same("LINE of ARC 1", x.arc(1, 2), 3);
    }

    private static void blanksAndWords() {
        D.says("A LINE has BLANKS (32), as many as will, and WORDS, at least one BLANK between two:");
        C.right("a b", 1);
        C.right("   a     b   ", 1);
        C.right(" ".repeat(200) + "a" + " ".repeat(198) + "b" + " ".repeat(200), 1);
        C.right("  !   0    0  ", 0);
        C.right("  %   x    w  ", 0);
        C.right("% x t\n  a  b   c  ", 1);
        C.wrong("!0 0", SIGN, 1, 2);
        C.wrong("! 0!", SIGN, 1, 4);
        C.wrong("%x w", SIGN, 1, 2);
        C.wrong("% \"x\"w", SIGN, 1, 6);
        C.wrong("\"a\"b", SIGN, 1, 4);
        C.wrong("a\"b\"", SIGN, 1, 2);
        C.wrong("% x t\na b\"c\"", SIGN, 2, 4);
        C.wrong("% x t\n% y t\na b \"c\"d", SIGN, 3, 8);
        for (int b = 0; b <= 255; b++) {
            if (b != 32 && b != 10 && !isPlain(b)) {
                C.wrong("a" + (char) b + "b", SIGN, 1, 2);
                C.wrong("a b" + (char) b, SIGN, 1, 4);
                C.wrong("% x w" + (char) b, SIGN, 1, 6);
            }
        }
    }

    private static boolean isPlain(int b) {
        return "abcdefghijklmnopqrstuvwxyz0123456789_".indexOf(b) >= 0;
    }

    private static void comments() {
        D.says("nothing; or a COMMENT: # and the rest of the LINE, up to 20 bytes 32 .. 126 (also BLANKS at its end);");
        C.right("     ", 0);
        C.right("#", 0);
        C.same("no byte", Checks.commentBytes(Checks.reading("#"), 0), "");
        String twenty = "a # \" ! % \\ b       ";
        C.same("20 bytes, BLANKS at the end", Checks.commentBytes(Checks.reading("#" + twenty), 0), twenty);
        C.wrong("#" + twenty + " ", LONG, 1, 22);
        for (int b = 0; b <= 255; b++) {
            if (b >= 32 && b <= 126) {
                C.same("byte " + b, Checks.reading("#" + (char) b).comment(0, 0), b);
                C.wrong("#" + twenty + (char) b, LONG, 1, 22);
            } else if (b != 10) {
                C.wrong("#x" + (char) b, SIGN, 1, 3);
                C.wrong("#" + twenty + (char) b, SIGN, 1, 22);
            }
        }
    }

    private static void counts() {
        D.says("or a COUNT: ! and two NUMBERS (one or two figures): how many NODES and ARCS there are in all; once in THE "
            + "TEXT at most;");
        C.right("! 0 0", 0);
        C.right("! 00 00", 0);
        C.right("! 2 1\na b", 1);
        C.right("a b\n! 02 01", 1);
        C.right("a b\n! 3 2\nb c", 2);
        C.wrong("!", SIGN, 1, 2);
        C.wrong("! 2", SIGN, 1, 4);
        C.wrong("! 2 ", SIGN, 1, 5);
        C.wrong("! 002 1\na b", LONG, 1, 5);
        C.wrong("! 2 001\na b", LONG, 1, 7);
        C.wrong("! 2 1 0\na b", SIGN, 1, 7);
        C.wrong("a b\n! 2 1\nb c", LIES, 2, 3);
        C.wrong("! 2 1\na b\n! 2 1", ORDER, 3, 1);
        for (int b = 0; b <= 255; b++) {
            boolean figure = b >= '0' && b <= '9';
            if (!figure && b != 32 && b != 10) {
                C.wrong("! " + (char) b, SIGN, 1, 3);
                C.wrong("! 0" + (char) b, SIGN, 1, 4);
                C.wrong("! 00" + (char) b, SIGN, 1, 5);
                C.wrong("! 0 " + (char) b, SIGN, 1, 5);
                C.wrong("! 0 00" + (char) b, SIGN, 1, 7);
            }
        }
        for (int figure = 0; figure <= 9; figure++) {
            C.wrong("! 00" + figure, LONG, 1, 5);
        }
    }

    private static void heads() {
        D.says("or a HEAD: % and a NAME and w, d, t or g: one COLUMN more, ahead of all ARCS, 3 at most, no two of one NAME;");
        String text = "";
        for (int columns = 0; columns <= 3; columns++) {
            C.same(columns + " COLUMNS", Checks.reading(text).about(3), columns);
            text = text + "% n" + columns + " w\n";
        }
        C.wrong(text, ORDER, 4, 1);
        C.wrong("a b\n% x w", ORDER, 2, 1);
        C.wrong("% x w\n% x d", ORDER, 2, 3);
        C.right("# ahead\n% x w\n! 2 1\n% y w\na b 1 2", 1);
        for (int b = 0; b <= 255; b++) {
            if ("wdtg".indexOf(b) >= 0) {
                C.right("% x " + (char) b, 0);
            } else if (b != 32) {
                C.wrong("% x " + (char) b, SIGN, 1, 5);
            }
        }
        C.wrong("% x w w", SIGN, 1, 7);
        C.wrong("% x wd", SIGN, 1, 6);
        C.wrong("% x", SIGN, 1, 4);
        C.wrong("% ", SIGN, 1, 3);
    }

    private static void arcs() {
        D.says("or an ARC: two NAMES (from, to), and a VALUE for each COLUMN, in order.");
        C.wrong("a", SIGN, 1, 2);
        C.wrong("a b c", SIGN, 1, 5);
        C.wrong("% x w\na b", SIGN, 2, 4);
        C.wrong("% x w\na b 1 2", SIGN, 2, 7);
        C.wrong("% x w\n% y w\n% z w\na b 1 2", SIGN, 4, 8);
        C.wrong("% x w\n% y w\n% z w\na b 1 2 3 4", SIGN, 4, 11);
        GraphTexts x = Checks.reading("% x w\n% y w\n% z w\na b 1 2 3");
        C.same("from", Checks.nodeName(x, x.arc(0, 0)), "a");
        C.same("to", Checks.nodeName(x, x.arc(0, 1)), "b");
        for (int column = 0; column < 3; column++) {
            C.same("COLUMN " + column, x.value(0, column), 1000 * (column + 1));
        }
    }

    private static void plainNames() {
        D.says("A NAME are 1 .. 8 signs: PLAIN: a .. z, 0 .. 9, _ ;");
        for (int b = 0; b <= 255; b++) {
            if (isPlain(b)) {
                C.same("sign " + b, Checks.reading("a x" + (char) b).node(1, 1), b);
                C.same("one sign " + b, Checks.reading("" + (char) b + " ab").node(0, 0), b);
                C.wrong("a 12345678" + (char) b, LONG, 1, 11);
            } else if (b != 32 && b != 10) {
                C.wrong("a x" + (char) b, SIGN, 1, 4);
                C.wrong("a 12345678" + (char) b, SIGN, 1, 11);
            }
        }
        C.right("12345678 abcdefgh", 1);
        C.wrong("a ", SIGN, 1, 3);
    }

    private static void quotedNames() {
        D.says("or QUOTED: between two \" signs 32 .. 126, \" and \\ having one \\ ahead each (which does not count, and "
            + "stands ahead of no other sign).");
        for (int b = 0; b <= 255; b++) {
            boolean escaped = b == '"' || b == '\\';
            if (escaped) {
                C.same("sign " + b, Checks.nodeName(Checks.reading("0 \"\\" + (char) b + "\""), 1), "" + (char) b);
            } else if (b >= 32 && b <= 126) {
                C.same("sign " + b, Checks.reading("ab \"" + (char) b + "\"").node(1, 0), b);
                C.wrong("a \"12345678" + (char) b, LONG, 1, 12);
            } else {
                C.wrong("a \"x" + (char) b + "\"", SIGN, 1, 5);
                C.wrong("a \"12345678" + (char) b, SIGN, 1, 12);
            }
            if (!escaped) {
                C.wrong("a \"\\" + (char) b + "\"", SIGN, 1, 5);
            }
        }
        C.wrong("a \"\"", SIGN, 1, 4);
        C.wrong("a \"", SIGN, 1, 4);
        C.wrong("a \"x", SIGN, 1, 5);
        C.wrong("a \"\\", SIGN, 1, 5);
        C.wrong("a \"\\\"", SIGN, 1, 6);
        C.right("a \"12345678\"", 1);
        String eight = "\\\"\\\\".repeat(4);
        C.same("eight signs in 16 bytes", Checks.nodeName(Checks.reading("a \"" + eight + "\""), 1), "\"\\".repeat(4));
        C.wrong("a \"" + eight + "x\"", LONG, 1, 20);
        C.wrong("a \"" + eight + "\\\"\"", LONG, 1, 20);
        C.wrong("a \"123456789\"", LONG, 1, 12);
    }

    private static String inColumn(char kind, String word) {
        return "% c " + kind + "\na b " + word;
    }

    /** The word stands in a COLUMN of this kind: at THE TEXT's end, ahead of a BLANK, ahead of a 10. */
    private static void stands(char kind, String word) {
        C.right(inColumn(kind, word), 1);
        C.right(inColumn(kind, word + " "), 1);
        C.right(inColumn(kind, word + "\n"), 1);
    }

    private static void fails(char kind, String word, int fault, int placeInWord) {
        C.wrong(inColumn(kind, word), fault, 2, 4 + placeInWord);
        C.wrong(inColumn(kind, word + " "), fault, 2, 4 + placeInWord);
        C.wrong(inColumn(kind, word + "\n"), fault, 2, 4 + placeInWord);
    }

    private static void missing() {
        D.says("A VALUE is MISSING: - alone;");
        for (char kind : "wdtg".toCharArray()) {
            stands(kind, "-");
            fails(kind, "--", SIGN, 2);
            fails(kind, "-a", SIGN, 2);
            fails(kind, "-\"", SIGN, 2);
            fails(kind, "-.", SIGN, 2);
            C.same("MISSING in " + kind, Checks.reading(inColumn(kind, "-")).arc(0, 3), 1);
            C.wrong(inColumn(kind, "- 5"), SIGN, 2, 7);
        }
        stands('t', "\"-\"");
        C.same("a NAME of one -", Checks.reading(inColumn('t', "\"-\"")).arc(0, 3), 0);
    }

    private static void wholes() {
        D.says("a WHOLE: - or not, 1 .. 6 figures without 0 ahead of others, no -0;");
        for (String word : new String[] {"0", "9", "-1", "10", "-10", "999999", "-999999", "100000"}) {
            stands('w', word);
            C.same("w " + word, Checks.reading(inColumn('w', word)).value(0, 0), 1000 * Integer.parseInt(word));
        }
        fails('w', "1000000", LONG, 7);
        fails('w', "-1000000", LONG, 8);
        fails('w', "00", SIGN, 2);
        fails('w', "01", SIGN, 2);
        fails('w', "0000000", SIGN, 2);
        fails('w', "-0", SIGN, 2);
        fails('w', "-01", SIGN, 2);
        fails('w', "+1", SIGN, 1);
        fails('w', "1-", SIGN, 2);
    }

    private static void decimals() {
        D.says("a DECIMAL: - or not, 1 .. 3 figures likewise (-0 may be), a point, 1 .. 3 figures; or a NAME.");
        String[] words = {"0.0", "-0.0", "-0.5", "0.001", "9.9", "-9.9", "10.25", "999.999", "-999.999", "100.000"};
        int[] due = {0, 0, -500, 1, 9900, -9900, 10250, 999999, -999999, 100000};
        for (int k = 0; k < words.length; k++) {
            stands('d', words[k]);
            C.same("d " + words[k], Checks.reading(inColumn('d', words[k])).value(0, 0), due[k]);
        }
        fails('d', ".5", SIGN, 1);
        fails('d', "-.5", SIGN, 2);
        fails('d', "1000.5", LONG, 4);
        fails('d', "-1000.5", LONG, 5);
        fails('d', "5.", SIGN, 3);
        fails('d', "5.0000", LONG, 6);
        fails('d', "00.5", SIGN, 2);
        fails('d', "01.5", SIGN, 2);
        fails('d', "-00.5", SIGN, 3);
        fails('d', "1.5.", SIGN, 4);
        fails('d', "1.-5", SIGN, 3);
    }

    private static void columns() {
        D.says("In a COLUMN w it is a WHOLE, in d a WHOLE or a DECIMAL, in t a NAME, in g any; everywhere it may be MISSING.");
        for (char kind : "wdtg".toCharArray()) {
            stands(kind, "-");
            stands(kind, "5");
        }
        fails('w', "5.5", SIGN, 2);
        stands('d', "5.5");
        fails('t', "5.5", SIGN, 2);
        stands('g', "5.5");
        stands('w', "-5");
        stands('d', "-5");
        fails('t', "-5", SIGN, 2);
        stands('g', "-5");
        for (String name : new String[] {"x", "_", "\"x\"", "\"5\""}) {
            fails('w', name, KIND, 1);
            fails('d', name, KIND, 1);
            stands('t', name);
            stands('g', name);
        }
        C.same("5 in d", Checks.reading(inColumn('d', "5")).value(0, 0), 5000);
        C.same("5 in t", Checks.valueName(Checks.reading(inColumn('t', "5")), 0, 0), "5");
    }

    private static int guessedKind(String... words) {
        StringBuilder text = new StringBuilder("% c g\n");
        for (String word : words) {
            text.append("a b ").append(word).append('\n');
        }
        return Checks.reading(text.toString()).kind(0);
    }

    private static void guessedByTheFirstSign() {
        D.says("In g a VALUE that begins with - is MISSING or a number, with \" a NAME;");
        C.same("- MISSING", Checks.reading(inColumn('g', "-")).arc(0, 3), 1);
        C.same("-1 WHOLE", guessedKind("-1"), W);
        C.same("-999999 WHOLE", guessedKind("-999999"), W);
        C.same("-0.0 DECIMAL", guessedKind("-0.0"), DECIMALS);
        fails('g', "-1000000", LONG, 8);
        fails('g', "-1000.5", LONG, 5);
        fails('g', "-01", SIGN, 3);
        fails('g', "-1x", SIGN, 3);
        fails('g', "-0", SIGN, 2);
        C.same("\"5\" NAME", guessedKind("\"5\""), T);
        C.same("\"5.5\" NAME", guessedKind("\"5.5\""), T);
        C.same("\"-\" NAME", guessedKind("\"-\""), T);
        fails('g', "\"\"", SIGN, 2);
        fails('g', "\"123456789\"", LONG, 10);
    }

    private static void guessedByPlainSigns() {
        D.says("PLAIN signs, as far as they go: all of them figures and a point behind: a DECIMAL; else a WHOLE, if they are "
            + "one; else a NAME.");
        C.same("1.5", guessedKind("1.5"), DECIMALS);
        C.same("0.000", guessedKind("0.000"), DECIMALS);
        C.same("999.999", guessedKind("999.999"), DECIMALS);
        fails('g', "5.", SIGN, 3);
        fails('g', "5.x", SIGN, 3);
        fails('g', "1234.5", LONG, 4);
        fails('g', "12345678.5", LONG, 4);
        fails('g', "00.5", SIGN, 2);
        fails('g', "5x.5", SIGN, 3);
        fails('g', "x.5", SIGN, 2);
        C.same("0", guessedKind("0"), W);
        C.same("999999", guessedKind("999999"), W);
        C.same("1000000 has a seventh figure", guessedKind("1000000"), T);
        C.same("99999999", guessedKind("99999999"), T);
        fails('g', "999999999", LONG, 9);
        C.same("00 has a 0 ahead", guessedKind("00"), T);
        C.same("05", guessedKind("05"), T);
        C.same("5_", guessedKind("5_"), T);
        C.same("5a", guessedKind("5a"), T);
        C.same("a5", guessedKind("a5"), T);
        C.same("_", guessedKind("_"), T);
    }

    private static void guessedKinds() {
        D.says("THE KIND of a COLUMN g: w, if all its VALUES that are not MISSING are WHOLE; else d, if all are WHOLE or "
            + "DECIMAL; else t: numbers in it are NAMES then, sign by sign as they stand.");
        C.same("no VALUE at all", Checks.reading("% c g").kind(0), W);
        C.same("all MISSING", guessedKind("-", "-"), W);
        C.same("MISSING and WHOLE", guessedKind("-", "5", "-"), W);
        C.same("the first is a DECIMAL", guessedKind("1.5", "5", "-"), DECIMALS);
        C.same("the last is a DECIMAL", guessedKind("-", "5", "5.0"), DECIMALS);
        C.same("the first is a NAME", guessedKind("x", "5", "1.5"), T);
        C.same("the last is a NAME", guessedKind("5", "1.5", "x"), T);
        String[] words = {"0", "-5", "1.50", "-0.0", "-999.990", "-999999", "x"};
        GraphTexts x = Checks.reading("% c g\na b " + String.join("\na b ", words));
        for (int arc = 0; arc < words.length; arc++) {
            C.same("as it stands", Checks.valueName(x, arc, 0), words[arc]);
        }
    }
}
