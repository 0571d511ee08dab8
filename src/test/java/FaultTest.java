/** Promises 3 and 4: each FAULT with its LINE and PLACE, and the texts at its edge that have none. */
public final class FaultTest {
    private static final Checks C = new Checks("FaultTest");
    private static final int SIGN = 1, LONG = 2, KIND = 3, ORDER = 4, DOUBLED = 5, FULL = 6, LIES = 7;

    public static void main(String[] args) {
        lines();
        comments();
        counts();
        heads();
        names();
        quotedNames();
        wholes();
        decimals();
        texts();
        guessed();
        orders();
        doubled();
        full();
        lies();
        graphStays();
        C.end();
    }

    private static void wrong(String text, int fault, int line, int place) {
        wrong(text, 0, fault, line, place);
    }

    private static void wrong(String text, int manner, int fault, int line, int place) {
        C.wrong(text, manner, fault, line, place);
    }

    private static void right(String text, int arcs) {
        right(text, 0, arcs);
    }

    private static void right(String text, int manner, int arcs) {
        C.right(text, manner, arcs);
    }

    private static void value(char kind, String word, int fault, int placeInWord) {
        wrong("% c " + kind + "\na b " + word, fault, 2, 4 + placeInWord);
        // A word that is followed by a BLANK, or by a further LINE, is no other word.
        wrong("% c " + kind + "\na b " + word + "\na b -", fault, 2, 4 + placeInWord);
    }

    private static void value(char kind, String word) {
        right("% c " + kind + "\na b " + word, 1);
        right("% c " + kind + "\n  a  b  " + word + "  \n", 1);
        wrong("% c " + kind + "\na b " + word + "?", SIGN, 2, 5 + word.length());
        wrong("% c " + kind + "\na b " + word + " x", SIGN, 2, 6 + word.length());
    }

    private static void lines() {
        right("", 0);
        right("\n", 0);
        right("   \n  ", 0);
        right("\n\n\n", 0);
        right("a b", 1);
        right("a b\n", 1);
        right(" a   b  \n\n   b a", 2);
        wrong("\n\n\n  ?", SIGN, 4, 3);
        wrong("a b\n\nc", SIGN, 3, 2);
        wrong("a b\nc \nd e", SIGN, 2, 3);
        wrong("a b\nc   ", SIGN, 2, 5);
        wrong("a b # x", SIGN, 1, 5);
        wrong("a b c", SIGN, 1, 5);
        wrong("a\tb", SIGN, 1, 2);
        wrong("\ta b", SIGN, 1, 1);
        wrong("a b\r\n", SIGN, 1, 4);
        wrong("\u0000", SIGN, 1, 1);
        wrong("\u00ff", SIGN, 1, 1);
        wrong("A b", SIGN, 1, 1);
        wrong("- b", SIGN, 1, 1);
        wrong(".", SIGN, 1, 1);
        right("\n".repeat(600), 0);
        right(" ".repeat(600), 0);
        wrong("\n".repeat(599) + "?", SIGN, 600, 1);
        wrong(" ".repeat(599) + "a", SIGN, 1, 601);
    }

    private static void comments() {
        right("#", 0);
        right("   #", 0);
        right("#" + "x".repeat(20), 0);
        right("#" + " ".repeat(20), 0);
        right("# ~ #!%\"\\ ABC\n# again", 0);
        wrong("#" + "x".repeat(21), LONG, 1, 22);
        wrong("#" + " ".repeat(21), LONG, 1, 22);
        wrong("  #" + "x".repeat(25), LONG, 1, 24);
        wrong("#" + "x".repeat(20) + "\u007f", SIGN, 1, 22);
        wrong("#" + "x".repeat(20) + "\u001f", SIGN, 1, 22);
        wrong("#ab\u007f", SIGN, 1, 4);
        wrong("#ab\u001f", SIGN, 1, 4);
        wrong("#ab\u0080", SIGN, 1, 4);
        wrong("a b\n#\u00ff", SIGN, 2, 2);
    }

    private static void counts() {
        right("! 0 0", 0);
        right("! 00 00", 0);
        right("  !  02   01  \na b", 1);
        right("a b\n! 2 1", 1);
        wrong("!", SIGN, 1, 2);
        wrong("! ", SIGN, 1, 3);
        wrong("!1 1", SIGN, 1, 2);
        wrong("! 1", SIGN, 1, 4);
        wrong("! 1 ", SIGN, 1, 5);
        wrong("! x 1", SIGN, 1, 3);
        wrong("! -1 1", SIGN, 1, 3);
        wrong("! 1x 1", SIGN, 1, 4);
        wrong("! 12x 1", SIGN, 1, 5);
        wrong("! 123 1", LONG, 1, 5);
        wrong("! 000 1", LONG, 1, 5);
        wrong("! 1 123", LONG, 1, 7);
        wrong("! 1 1.", SIGN, 1, 6);
        wrong("! 0 0 0", SIGN, 1, 7);
        wrong("! 0 0 #", SIGN, 1, 7);
    }

    private static void heads() {
        right("% x w", 0);
        right("  %   x   g   ", 0);
        right("% x w\n% y d\n% z t", 0);
        right("% \"a b\" w\n% ab w", 0);
        wrong("%", SIGN, 1, 2);
        wrong("%x w", SIGN, 1, 2);
        wrong("% ", SIGN, 1, 3);
        wrong("% x", SIGN, 1, 4);
        wrong("% x ", SIGN, 1, 5);
        wrong("% x q", SIGN, 1, 5);
        wrong("% x W", SIGN, 1, 5);
        wrong("% x ww", SIGN, 1, 6);
        wrong("% x w w", SIGN, 1, 7);
        wrong("% ? w", SIGN, 1, 3);
        wrong("% 123456789 w", LONG, 1, 11);
        wrong("% -", SIGN, 1, 3);
    }

    private static void names() {
        right("12345678 abcdefgh", 1);
        right("_ 0", 1);
        right("az09_ z", 1);
        wrong("123456789 b", LONG, 1, 9);
        wrong("12345678? b", SIGN, 1, 9);
        wrong("12345678\" b", SIGN, 1, 9);
        wrong("a 123456789", LONG, 1, 11);
        wrong("a\"b\"", SIGN, 1, 2);
        wrong("\"b\"a c", SIGN, 1, 4);
        wrong("a `", SIGN, 1, 3);
        wrong("a {", SIGN, 1, 3);
        wrong("a /", SIGN, 1, 3);
        wrong("a :", SIGN, 1, 3);
        wrong("a-b c", SIGN, 1, 2);
    }

    private static void quotedNames() {
        right("\"12345678\" \" \"", 1);
        right("\"\\\"\\\\\\\"\\\\\\\"\\\\\\\"\\\\\" \"~\"", 1);
        wrong("\"\" b", SIGN, 1, 2);
        wrong("\"", SIGN, 1, 2);
        wrong("\"a", SIGN, 1, 3);
        wrong("\"a\nb\" c", SIGN, 1, 3);
        wrong("\"a\\", SIGN, 1, 4);
        wrong("\"a\\\n", SIGN, 1, 4);
        wrong("\"a\\n\" b", SIGN, 1, 4);
        wrong("\"a\\ \" b", SIGN, 1, 4);
        wrong("\"a\tb\" b", SIGN, 1, 3);
        wrong("\"a\u007f\" b", SIGN, 1, 3);
        wrong("\"a\u00c8\" b", SIGN, 1, 3);
        wrong("\"123456789\" b", LONG, 1, 10);
        wrong("\"12345678 \" b", LONG, 1, 10);
        wrong("\"12345678\\\"\" b", LONG, 1, 10);
        wrong("\"12345678\\x\" b", LONG, 1, 10);
        wrong("\"12345678\t\" b", SIGN, 1, 10);
        wrong("\"12345678", SIGN, 1, 10);
        wrong("\"1234567\\x\" b", SIGN, 1, 10);
        wrong("\"a\"\"b\"", SIGN, 1, 4);
        wrong("a \"\"", SIGN, 1, 4);
    }

    private static void wholes() {
        for (String word : new String[] {"-", "0", "5", "-5", "999999", "-999999", "10", "100000"}) {
            value('w', word);
        }
        value('w', "-0", SIGN, 2);
        value('w', "-00", SIGN, 2);
        value('w', "-0.5", SIGN, 2);
        value('w', "00", SIGN, 2);
        value('w', "01", SIGN, 2);
        value('w', "0x", SIGN, 2);
        value('w', "1.5", SIGN, 2);
        value('w', "1234.5", SIGN, 5);
        value('w', ".5", SIGN, 1);
        value('w', "+5", SIGN, 1);
        value('w', "A", SIGN, 1);
        value('w', "--", SIGN, 2);
        value('w', "-x", SIGN, 2);
        value('w', "-\"x\"", SIGN, 2);
        value('w', "-.", SIGN, 2);
        value('w', "1-", SIGN, 2);
        value('w', "5x", SIGN, 2);
        value('w', "5_", SIGN, 2);
        value('w', "5\"", SIGN, 2);
        value('w', "1234567", LONG, 7);
        value('w', "-1234567", LONG, 8);
        value('w', "123456x", SIGN, 7);
        value('w', "123456.", SIGN, 7);
        value('w', "x", KIND, 1);
        value('w', "_5", KIND, 1);
        value('w', "\"5\"", KIND, 1);
        value('w', "\"", KIND, 1);
        wrong("% c w\na b", SIGN, 2, 4);
        wrong("% c w\na b  ", SIGN, 2, 6);
        wrong("% c w\n% d d\na b 1", SIGN, 3, 6);
    }

    private static void decimals() {
        for (String word : new String[] {"-", "0", "-5", "999999", "-999999", "0.0", "-0.0", "-0.000", "1.5", "-999.999",
            "999.999", "0.001", "10.10"}) {
            value('d', word);
        }
        value('d', "-0", SIGN, 2);
        value('d', "-0x", SIGN, 2);
        value('d', "-00", SIGN, 3);
        value('d', "-05", SIGN, 3);
        value('d', "-0.", SIGN, 4);
        value('d', "-0.x", SIGN, 4);
        value('d', "00.5", SIGN, 2);
        value('d', "1.", SIGN, 3);
        value('d', "1.x", SIGN, 3);
        value('d', "1.-5", SIGN, 3);
        value('d', "1.5.5", SIGN, 4);
        value('d', "1.5x", SIGN, 4);
        value('d', "1.2345", LONG, 6);
        value('d', "1.0000", LONG, 6);
        value('d', "1.234x", SIGN, 6);
        value('d', "1234.5", LONG, 4);
        value('d', "-1234.5", LONG, 5);
        value('d', "1234.", LONG, 4);
        value('d', "123456.5", LONG, 4);
        value('d', "1234567", LONG, 7);
        value('d', "1234567.5", LONG, 7);
        value('d', "123456x", SIGN, 7);
        value('d', "1234x", SIGN, 5);
        value('d', "x", KIND, 1);
        value('d', "_", KIND, 1);
        value('d', "\"1\"", KIND, 1);
        value('d', ".5", SIGN, 1);
        value('d', "-.5", SIGN, 2);
        value('d', "--1", SIGN, 2);
        wrong("% c d\na b -0 ", SIGN, 2, 6);
    }

    private static void texts() {
        for (String word : new String[] {"-", "55", "007", "x", "12345678", "\"-\"", "\"-5\"", "\"a b\"", "_"}) {
            value('t', word);
        }
        value('t', "-5", SIGN, 2);
        value('t', "--", SIGN, 2);
        value('t', "-x", SIGN, 2);
        value('t', "1.5", SIGN, 2);
        value('t', ".", SIGN, 1);
        value('t', "X", SIGN, 1);
        value('t', "123456789", LONG, 9);
        value('t', "\"123456789\"", LONG, 10);
        value('t', "\"\"", SIGN, 2);
    }

    private static void guessed() {
        for (String word : new String[] {"-", "0", "-5", "007", "1a", "1234567", "12345678", "1.5", "-0.5", "-999.999",
            "999.999", "_", "\"1.5\"", "\"a b\"", "0x", "x0"}) {
            value('g', word);
        }
        value('g', "-0", SIGN, 2);
        value('g', "-0x", SIGN, 2);
        value('g', "-00", SIGN, 3);
        value('g', "-a", SIGN, 2);
        value('g', "-1a", SIGN, 3);
        value('g', "-\"", SIGN, 2);
        value('g', "-1234567", LONG, 8);
        value('g', "-1234.5", LONG, 5);
        value('g', "1a.5", SIGN, 3);
        value('g', "_.5", SIGN, 2);
        value('g', "123456789", LONG, 9);
        value('g', "123456789.5", LONG, 9);
        value('g', "abcdefghi", LONG, 9);
        value('g', "12345678.5", LONG, 4);
        value('g', "1234.5", LONG, 4);
        value('g', "00.5", SIGN, 2);
        value('g', "0000.5", SIGN, 2);
        value('g', "1.", SIGN, 3);
        value('g', "1.a", SIGN, 3);
        value('g', "1.5a", SIGN, 4);
        value('g', "1.2345", LONG, 6);
        value('g', ".5", SIGN, 1);
        value('g', "X", SIGN, 1);
        value('g', "#", SIGN, 1);
        value('g', "1\"", SIGN, 2);
    }

    private static void orders() {
        wrong("! 0 0\n! 0 0", ORDER, 2, 1);
        wrong("! 0 0\n  !x", ORDER, 2, 3);
        wrong("a b\n  % x w", ORDER, 2, 3);
        wrong("a b\n%?", ORDER, 2, 1);
        wrong("a b\na b\n% x w", 1, ORDER, 3, 1);
        wrong("% x w\n% y w\n% z w\n %", ORDER, 4, 2);
        wrong("% x w\n% x d", ORDER, 2, 3);
        wrong("% x w\n%   \"x\" d", ORDER, 2, 5);
        wrong("% x w\n% y w\n% x", ORDER, 3, 3);
        wrong("% \"x\" w\n% x?", ORDER, 2, 3);
        wrong("% x w\n% \"x\"?", ORDER, 2, 3);
        wrong("% x w\n% \"x", SIGN, 2, 5);
        right("% x w\n% xx w\n% \"x \" w", 0);
        right("% a w\na b 1\n! 2 1", 1);
    }

    private static void doubled() {
        right("a b\na b", 2);
        right("a b\na b\nb a\na a", 1, 3);
        right("a b\nb a\na a\nb b", 2, 4);
        wrong("a b\nb a\n a  \"b\" ?", 2, DOUBLED, 3, 5);
        wrong("a b\na b", 2, DOUBLED, 2, 3);
        wrong("% x w\na b 1\na b x", 2, DOUBLED, 3, 3);
        wrong("a b\na bc?", 2, SIGN, 2, 5);
        // What is LEFT OUT must still be right, byte by byte.
        wrong("% x w\na b 1\na b x", 1, KIND, 3, 5);
        wrong("% x w\na b 1\na b", 1, SIGN, 3, 4);
        wrong("a b\na b c", 1, SIGN, 2, 5);
    }

    private static String nodes(int count) {
        StringBuilder all = new StringBuilder();
        for (int k = 0; k < count; k += 2) {
            all.append((char) ('a' + k / 2)).append(' ').append((char) ('a' + k / 2)).append("0\n");
        }
        return all.toString();
    }

    private static void full() {
        right(nodes(30), 15);
        wrong(nodes(30) + "z a", FULL, 16, 1);
        wrong(nodes(30) + " a  \"z\"?", FULL, 16, 5);
        wrong(nodes(30) + "a z x", FULL, 16, 3);
        wrong(nodes(30) + "a \"z", SIGN, 16, 5);
        right(nodes(30) + "a b", 16);
        right("a b\n".repeat(40), 40);
        wrong("a b\n".repeat(40) + "  a b", FULL, 41, 3);
        wrong("a b\n".repeat(41), FULL, 41, 1);
        wrong("a b\n".repeat(40) + "a b c", SIGN, 41, 5);
        right("a b\n".repeat(60), 1, 1);
        String forty = "% c w\n" + "a b 1\n".repeat(40);
        right(forty, 40);
        wrong(forty + "a b 2 ", FULL, 42, 1);
        wrong(forty + "a b x", KIND, 42, 5);
        wrong("% x w\n% y w\n% z w\n" + "a a - - -\n".repeat(41), FULL, 44, 1);
        StringBuilder different = new StringBuilder();
        for (int k = 0; k < 40; k++) {
            different.append((char) ('a' + k % 20)).append(' ').append((char) ('a' + k / 20)).append('\n');
        }
        right(different + "a a\n", 1, 40);
        wrong(different + "a c\n", 1, FULL, 41, 1);
        wrong(different + "a a\n", 2, DOUBLED, 41, 3);
    }

    private static void lies() {
        wrong("! 3 1\na b", LIES, 1, 3);
        wrong("! 2 2\na b", LIES, 1, 5);
        wrong("! 3 2\na b", LIES, 1, 3);
        wrong("a b\n  !  02  03  \n\n", LIES, 2, 10);
        wrong("a b\n  !  01  01  \n\n", LIES, 2, 6);
        wrong("! 0 1", LIES, 1, 5);
        wrong("! 2 2\na b\na b", 1, LIES, 1, 5);
        right("! 2 1\na b\na b", 1, 1);
        right("! 2 2\na b\na b", 0, 2);
        wrong("! 9 9\na ?", SIGN, 2, 3);
        right("! 30 15\n" + nodes(30), 15);
    }

    private static void graphStays() {
        GraphTexts x = Checks.reading("# c\n% k g\na b 1.5\nb a -");
        String before = Checks.graph(x);
        String written = Checks.written(x);
        C.same("a wrong read", Checks.read(x, "% other t\nx y z\n% w w"), -14);
        C.same("LINE", x.fault(0), 3);
        C.same("the GRAPH after a FAULT", Checks.graph(x), before);
        C.same("WRITTEN after a FAULT", Checks.written(x), written);
        C.same("a right read", Checks.read(x, "x y"), 1);
        C.same("LINE after a right read", x.fault(0), GraphTexts.NONE);
        C.same("PLACE after a right read", x.fault(1), GraphTexts.NONE);
        C.same("the new GRAPH", Checks.graph(x), "node x\nnode y\narc 0 1 0\n");
        C.same("an empty read", x.read(), 0);
        C.same("the empty GRAPH", Checks.graph(x), "");
        C.same("the empty GRAPH WRITTEN", x.print(), 0);
    }
}
