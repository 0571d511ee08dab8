/** READ, the MANNER and the FAULTS: each sentence of the document that names an edge, and its test. */
public final class ReadSentencesTest {
    private static final Checks C = new Checks("ReadSentencesTest");
    private static final Document D = new Document(C, "======== 2 READ", "======== 3 WRITTEN");
    private static final int SIGN = 1, LONG = 2, KIND = 3, ORDER = 4, DOUBLED = 5, FULL = 6, LIES = 7;
    private static final int KEPT = 0, LEFT_OUT = 1, WRONG = 2;

    public static void main(String[] args) {
        nodesAndArcs();
        manners();
        firstFault();
        signs();
        signsInNumbers();
        lineEnds();
        longs();
        longPoints();
        kinds();
        orders();
        headNames();
        doubled();
        full();
        lies();
        graphStays();
        D.end();
        C.end();
    }

    /** This many NODES in half as many ARCS. */
    private static String nodes(int count) {
        StringBuilder all = new StringBuilder();
        for (int k = 0; k < count; k += 2) {
            all.append("n").append(k).append(" n").append(k + 1).append('\n');
        }
        return all.toString();
    }

    /** This many ARCS, no two of them the same, between seven NODES. */
    private static String arcs(int count) {
        StringBuilder all = new StringBuilder();
        for (int k = 0; k < count; k++) {
            all.append((char) ('a' + k / 7)).append(' ').append((char) ('a' + k % 7)).append('\n');
        }
        return all.toString();
    }

    private static void nodesAndArcs() {
        D.says("======== 2 READ, byte by byte: NODES are NAMES of ARCS, numbered from 0 on as they come, 30 at most; ARCS "
            + "likewise, 40.");
        GraphTexts x = Checks.reading("% head t\nb a value\na b c\n\"c\" d d\nd \"a\" b");
        String[] due = {"b", "a", "c", "d"};
        C.same("a HEAD's NAME and a VALUE are no NODES", x.about(1), 4);
        for (int node = 0; node < due.length; node++) {
            C.same("NODE " + node, Checks.nodeName(x, node), due[node]);
        }
        int[][] ends = {{0, 1}, {1, 0}, {2, 3}, {3, 1}};
        for (int arc = 0; arc < ends.length; arc++) {
            C.same("ARC " + arc + " from", x.arc(arc, 0), ends[arc][0]);
            C.same("ARC " + arc + " to", x.arc(arc, 1), ends[arc][1]);
        }
        GraphTexts most = Checks.reading(nodes(30));
        C.same("30 NODES", most.about(1), 30);
        C.same("NODE 29", Checks.nodeName(most, 29), "n29");
        C.same("no NODE 30", most.node(30, 0), GraphTexts.UNKNOWN);
        C.wrong(nodes(30) + "n0 x", FULL, 16, 4);
        GraphTexts forty = Checks.reading(arcs(40));
        C.same("40 ARCS", forty.about(2), 40);
        C.same("ARC 39", forty.arc(39, 2), 40);
        C.same("no ARC 40", forty.arc(40, 2), GraphTexts.UNKNOWN);
        C.wrong(arcs(41), FULL, 41, 1);
        GraphTexts wide = Checks.reading("% x w\n% y d\n% z t\n" + "a a 1 2 x\n".repeat(39) + "b b 7 0.5 last");
        C.same("40 ARCS with 3 COLUMNS", wide.about(2), 40);
        C.same("VALUE 0 of ARC 39", wide.value(39, 0), 7000);
        C.same("VALUE 1 of ARC 39", wide.value(39, 1), 500);
        C.same("VALUE 2 of ARC 39", Checks.valueName(wide, 39, 2), "last");
        C.same("MISSING ones of ARC 39", wide.arc(39, 3), 0);
        GraphTexts gaps = Checks.reading("% x w\n% y d\n% z t\n" + "a a - - -\n".repeat(40));
        C.same("MISSING ones of the 40th of such ARCS", gaps.arc(39, 3), 3);
        C.thrown("its last VALUE", NullPointerException.class, () -> gaps.value(39, 2));
    }

    private static void manners() {
        D.says("An ARC is DOUBLED, if one before it is from and to the same NODES: by the MANNER (0 at first) it is KEPT "
            + "(0), LEFT OUT (1: it is none, its VALUES do not count), WRONG (2).");
        GraphTexts x = new GraphTexts();
        C.same("KEPT at first", Checks.read(x, "a b\na b"), 2);
        C.same("0 at first", x.manner(LEFT_OUT), KEPT);
        String text = "% c g\na b 1\nb a 2\na b x\n\"a\" b -\na a 3\nb a 1.5\nb b 4";
        C.right(text, KEPT, 7);
        C.wrong(text, WRONG, DOUBLED, 4, 3);
        C.same("LEFT OUT", Checks.read(x, text), 4);
        C.same("how many are LEFT OUT", x.about(4), 3);
        C.same("the VALUES LEFT OUT do not count", x.kind(0), 0);
        int[] lines = {2, 3, 6, 8};
        for (int arc = 0; arc < lines.length; arc++) {
            C.same("LINE of ARC " + arc, x.arc(arc, 2), lines[arc]);
            C.same("VALUE of ARC " + arc, x.value(arc, 0), 1000 * (arc + 1));
        }
        C.same("there is no other ARC", x.arc(4, 0), GraphTexts.UNKNOWN);
        GraphTexts names = Checks.reading("% c t\n% d d\na b one 1\na b two 2\nb a three 3\nb a - -\nb b four -", LEFT_OUT);
        C.same("VALUES of the ARCS that are left", Checks.graph(names), "node a\nnode b\ncolumn c 2\ncolumn d 1\n"
            + "arc 0 1 0 name <one> 1000\narc 1 0 0 name <three> 3000\narc 1 1 1 name <four> missing\n");
        C.right("a b\nb a\na a\nb b\na c\nc b", WRONG, 6);
        C.right("a b\n".repeat(41), LEFT_OUT, 1);
    }

    private static void firstFault() {
        D.says("FAULTS, with LINE and PLACE; the first that is found as it is gone along:");
        C.wrong("a b c d\na b c", SIGN, 1, 5);
        C.wrong("a b\na ?\n% x w", SIGN, 2, 3);
        C.wrong("a b\n% x w\na ?", ORDER, 2, 1);
        C.wrong("% x w\na b \"1\na b 1.5", KIND, 2, 5);
        C.wrong("! 9 9\na b\nb", SIGN, 3, 2);
        C.wrong(arcs(40) + "a b ?", SIGN, 41, 5);
        C.wrong("a b\na b ?", WRONG, DOUBLED, 2, 3);
        C.wrong("123456789 ?", LONG, 1, 9);
    }

    private static void signs() {
        D.says("1 SIGN: a byte that can not stand there");
        for (int b = 0; b <= 255; b++) {
            boolean begins = b == '#' || b == ' ' || b == '\n' || isFigure(b) || b >= 'a' && b <= 'z' || b == '_';
            if (!begins && b != '!' && b != '%' && b != '"') {
                C.wrong("" + (char) b, SIGN, 1, 1);
                C.wrong("a b\n " + (char) b, SIGN, 2, 2);
                C.wrong("% x t\na b " + (char) b + "x", SIGN, 2, b == '-' ? 6 : 5);
            }
            if (b != ' ' && b != '\n') {
                C.wrong("a b " + (char) b, SIGN, 1, 5);
                C.wrong("! 0 0 " + (char) b, SIGN, 1, 7);
                C.wrong("% x w " + (char) b, SIGN, 1, 7);
                C.wrong("% x w\na b 1 " + (char) b, SIGN, 2, 7);
            }
        }
    }

    private static boolean isFigure(int b) {
        return b >= '0' && b <= '9';
    }

    private static void fails(char kind, String word, int fault, int placeInWord) {
        C.wrong("% c " + kind + "\na b " + word, fault, 2, 4 + placeInWord);
    }

    private static void signsInNumbers() {
        D.says("(in a number: what makes none that the COLUMN may have, as the 0 of -0 (in d, g: whatever comes but a point "
            + "or a figure), a figure behind a 0, a point in w);");
        for (String behind : new String[] {"", " ", "\n", "x", "0", "5", ".", ".5", "-", "\"", "?"}) {
            fails('w', "-0" + behind, SIGN, 2);
        }
        for (char kind : "dg".toCharArray()) {
            for (int b = 0; b <= 255; b++) {
                if (isFigure(b)) {
                    fails(kind, "-0" + (char) b, SIGN, 3);
                } else if (b == '.') {
                    C.right("% c " + kind + "\na b -0.0", 1);
                    fails(kind, "-0.", SIGN, 4);
                } else {
                    fails(kind, "-0" + (char) b, SIGN, 2);
                }
            }
            fails(kind, "-0", SIGN, 2);
        }
        for (int figure = '0'; figure <= '9'; figure++) {
            fails('w', "0" + (char) figure, SIGN, 2);
            fails('d', "0" + (char) figure, SIGN, 2);
            fails('g', "0" + (char) figure + ".5", SIGN, 2);
            C.right("% c g\na b 0" + (char) figure, 1);
        }
        fails('w', "0.", SIGN, 2);
        fails('w', "5.5", SIGN, 2);
        fails('w', "-5.5", SIGN, 3);
        fails('w', "1234.5", SIGN, 5);
        fails('w', "123456.", SIGN, 7);
        for (int b = 0; b <= 255; b++) {
            if (!isFigure(b) && b != ' ' && b != '\n') {
                fails('w', "5" + (char) b, SIGN, 2);
                fails('w', "-" + (char) b, SIGN, 2);
                fails('d', "-" + (char) b, SIGN, 2);
                fails('g', "-" + (char) b, SIGN, 2);
                fails('d', "5.5" + (char) b, SIGN, 4);
            }
            if (!isFigure(b)) {
                fails('d', "5." + (char) b, SIGN, 3);
                fails('g', "5." + (char) b, SIGN, 3);
            }
        }
    }

    private static void lineEnds() {
        D.says("the LINE's end where more must come (PLACE: one behind its last byte).");
        String[] cut = {"a", "a ", "a   ", "!", "! ", "! 1", "! 1 ", "%", "% ", "% x", "% x ", "\"", "\"a", "\"a\\", "\"a\"",
            "a \"b"};
        for (String line : cut) {
            C.wrong(line, SIGN, 1, line.length() + 1);
            C.wrong(line + "\n", SIGN, 1, line.length() + 1);
            C.wrong("#\n" + line + "\na b", SIGN, 2, line.length() + 1);
        }
        String[] values = {"a b", "a b ", "a b 1", "a b 1 ", "a b 1 2.", "a b - \"x"};
        for (String line : values) {
            C.wrong("% x d\n% y g\n" + line, SIGN, 3, line.length() + 1);
            C.wrong("% x d\n% y g\n" + line + "\n", SIGN, 3, line.length() + 1);
        }
        C.wrong(" ".repeat(599) + "a", SIGN, 1, 601);
    }

    private static void longs() {
        D.says("2 LONG, at the byte: a ninth sign of a NAME (its \\, if it has one), a seventh figure of a WHOLE, a fourth "
            + "one behind a point, a third one of a NUMBER, a 21st byte of a COMMENT (all these only if the byte may stand "
            + "there);");
        C.right("12345678 \"12345678\"", 1);
        C.wrong("123456789", LONG, 1, 9);
        C.wrong("a 123456789", LONG, 1, 11);
        C.wrong("% 123456789", LONG, 1, 11);
        C.wrong("\"123456789\"", LONG, 1, 10);
        C.wrong("\"12345678\\\"\"", LONG, 1, 10);
        C.wrong("\"12345678\\\\\"", LONG, 1, 10);
        C.wrong("\"1234567\\\"9\"", LONG, 1, 11);
        C.wrong("12345678?", SIGN, 1, 9);
        C.wrong("\"12345678\t\"", SIGN, 1, 10);
        fails('t', "123456789", LONG, 9);
        fails('t', "\"123456789\"", LONG, 10);
        fails('g', "123456789", LONG, 9);
        for (char kind : "wd".toCharArray()) {
            C.right("% c " + kind + "\na b 123456", 1);
            fails(kind, "1234567", LONG, 7);
            fails(kind, "-1234567", LONG, 8);
            fails(kind, "123456x", SIGN, 7);
            fails(kind, "123456\"", SIGN, 7);
        }
        fails('g', "-1234567", LONG, 8);
        fails('g', "-123456x", SIGN, 8);
        for (char kind : "dg".toCharArray()) {
            C.right("% c " + kind + "\na b 1.234", 1);
            fails(kind, "1.2345", LONG, 6);
            fails(kind, "-1.0000", LONG, 7);
            fails(kind, "1.234x", SIGN, 6);
            fails(kind, "1.234.", SIGN, 6);
        }
        C.wrong("! 123", LONG, 1, 5);
        C.wrong("! 1 123", LONG, 1, 7);
        C.wrong("! 12x", SIGN, 1, 5);
        C.wrong("! 1 12x", SIGN, 1, 7);
        C.right("#12345678901234567890", 0);
        C.wrong("#123456789012345678901", LONG, 1, 22);
        C.wrong("#12345678901234567890\t", SIGN, 1, 22);
    }

    private static void longPoints() {
        D.says("when a point comes behind more than three figures, at the fourth.");
        for (char kind : "dg".toCharArray()) {
            C.right("% c " + kind + "\na b 123.5", 1);
            fails(kind, "1234.5", LONG, 4);
            fails(kind, "1234.", LONG, 4);
            fails(kind, "1234.x", LONG, 4);
            fails(kind, "123456.5", LONG, 4);
            fails(kind, "-1234.5", LONG, 5);
            fails(kind, "-123456.5", LONG, 5);
            fails(kind, "-1234567.5", LONG, 8);
        }
        fails('d', "1234567.5", LONG, 7);
        fails('g', "1234567.5", LONG, 4);
        fails('g', "12345678.5", LONG, 4);
        fails('g', "123456789.5", LONG, 9);
        fails('w', "1234.5", SIGN, 5);
        fails('t', "1234.5", SIGN, 5);
    }

    private static void kinds() {
        D.says("3 KIND, at the first byte: a VALUE in w, d that begins with \" or a PLAIN sign that is no figure.");
        for (char kind : "wd".toCharArray()) {
            for (int b = 0; b <= 255; b++) {
                boolean letter = b >= 'a' && b <= 'z' || b == '_';
                if (letter || b == '"') {
                    fails(kind, "" + (char) b, KIND, 1);
                    fails(kind, (char) b + "?", KIND, 1);
                } else if (!isFigure(b) && b != ' ' && b != '-') {
                    fails(kind, "" + (char) b, SIGN, 1);
                }
            }
            fails(kind, "5x", SIGN, 2);
            fails(kind, "-x", SIGN, 2);
            C.wrong("% a t\n% b " + kind + "\nx y   z  q", KIND, 3, 10);
        }
    }

    private static void orders() {
        D.says("4 ORDER: a second COUNT, a HEAD behind an ARC (also one LEFT OUT), a fourth HEAD (at ! or %, at once);");
        C.wrong("! 0 0\n! 0 0", ORDER, 2, 1);
        C.wrong("! 0 0\n   !", ORDER, 2, 4);
        C.wrong("! 2 1\na b\n!?", ORDER, 3, 1);
        C.wrong("a b\n% x w", ORDER, 2, 1);
        C.wrong("a b\n   %", ORDER, 2, 4);
        C.wrong("a b\n# between\n\n%?", ORDER, 4, 1);
        C.wrong("a b\na b\n% x w", LEFT_OUT, ORDER, 3, 1);
        String three = "% x w\n% y w\n% z w\n";
        C.right(three, 0);
        C.wrong(three + "% u w", ORDER, 4, 1);
        C.wrong(three + "  %", ORDER, 4, 3);
        C.wrong(three + "%?", ORDER, 4, 1);
    }

    private static void headNames() {
        D.says("a HEAD's NAME that another one has (at its first byte, when it was read).");
        C.wrong("% x w\n% x d", ORDER, 2, 3);
        C.wrong("% x w\n%    x d", ORDER, 2, 6);
        C.wrong("% x w\n% y w\n% y d", ORDER, 3, 3);
        C.wrong("% x w\n% y w\n% x d", ORDER, 3, 3);
        C.wrong("% x w\n% \"x\" w", ORDER, 2, 3);
        C.wrong("% \"\\\"\" w\n% \"\\\"\" w", ORDER, 2, 3);
        C.wrong("% 12345678 w\n% 12345678 q", ORDER, 2, 3);
        C.wrong("% 12345678 w\n% 123456789 w", LONG, 2, 11);
        C.wrong("% x w\n% \"x", SIGN, 2, 5);
        C.wrong("% x w\n% x", ORDER, 2, 3);
        C.right("% x w\n% xx w\n% \"x \" w", 0);
        C.right("% a w\na b 1", 1);
    }

    private static void doubled() {
        D.says("5 DOUBLED by MANNER 2 (at the second NAME's first byte, when it was read).");
        C.wrong("a b\na b", WRONG, DOUBLED, 2, 3);
        C.wrong("a b\n  a   \"b\"  ", WRONG, DOUBLED, 2, 7);
        C.wrong("a a\na a", WRONG, DOUBLED, 2, 3);
        C.wrong("a b\nb a\nb a", WRONG, DOUBLED, 3, 3);
        C.wrong("% c w\na b 1\na b x", WRONG, DOUBLED, 3, 3);
        C.wrong("% c w\na b 1\na b", WRONG, DOUBLED, 3, 3);
        C.wrong("a b\na \"b", WRONG, SIGN, 2, 5);
        C.wrong(arcs(40) + "a a", WRONG, DOUBLED, 41, 3);
        C.right("a b\na bb\nab b\nb a", WRONG, 4);
    }

    private static void full() {
        D.says("6 FULL: a 31st NODE (at its first byte, when it was read); a 41st ARC (at the first NAME's, when the LINE was "
            + "read).");
        C.right(nodes(30) + "n29 n0", 16);
        C.wrong(nodes(30) + "x n0", FULL, 16, 1);
        C.wrong(nodes(30) + "  x", FULL, 16, 3);
        C.wrong(nodes(30) + " n0   x", FULL, 16, 7);
        C.wrong(nodes(30) + "n0 \"x\" y", FULL, 16, 4);
        C.wrong(nodes(30) + "n0 \"x", SIGN, 16, 6);
        C.wrong(nodes(30) + "n0 123456789", LONG, 16, 12);
        C.wrong(nodes(30) + "x ?", FULL, 16, 1);
        C.right(arcs(40), 40);
        C.wrong(arcs(41), FULL, 41, 1);
        C.wrong(arcs(40) + "   a   a  ", FULL, 41, 4);
        C.wrong(arcs(40) + "a a ?", SIGN, 41, 5);
        C.wrong(arcs(40) + "a", SIGN, 41, 2);
        C.wrong("% c w\n" + "a b 1\n".repeat(40) + "a b 1", FULL, 42, 1);
        C.wrong("% c w\n" + "a b 1\n".repeat(40) + "a b x", KIND, 42, 5);
        C.wrong("% c w\n" + "a b 1\n".repeat(40) + "a b", SIGN, 42, 4);
        C.right(arcs(40) + "a a\n", LEFT_OUT, 40);
        C.wrong(arcs(40) + "a a\n", KEPT, FULL, 41, 1);
        C.wrong(arcs(40) + "a x\n", LEFT_OUT, FULL, 41, 1);
        C.right(arcs(40) + "#\n\n", 40);
    }

    private static void lies() {
        D.says("7 LIES, at the end of THE TEXT: NODES (at the first NUMBER's first byte), then ARCS (at the second one's), are "
            + "others than the COUNT told.");
        C.right("! 2 1\na b", 1);
        C.wrong("! 1 1\na b", LIES, 1, 3);
        C.wrong("! 3 1\na b", LIES, 1, 3);
        C.wrong("! 2 0\na b", LIES, 1, 5);
        C.wrong("! 2 2\na b", LIES, 1, 5);
        C.wrong("! 3 2\na b", LIES, 1, 3);
        C.wrong("\n   !   02    02\na b\n", LIES, 2, 14);
        C.wrong("\n   !   03    01\na b\n", LIES, 2, 8);
        C.wrong("! 1 0", LIES, 1, 3);
        C.wrong("! 0 1", LIES, 1, 5);
        C.wrong("! 99 99", LIES, 1, 3);
        C.wrong("! 2 1\na b ?", SIGN, 2, 5);
        C.right("! 30 15\n" + nodes(30), 15);
        C.right("! 7 40\n" + arcs(40), 40);
        C.wrong("! 2 2\na b\na b", LEFT_OUT, LIES, 1, 5);
        C.right("! 2 1\na b\na b", LEFT_OUT, 1);
        C.right("! 2 2\na b\na b", KEPT, 2);
    }

    private static void graphStays() {
        D.says("Without a FAULT THE GRAPH is what was read; else it stays (nothing at first).");
        String[] wrong = {"a", "123456789", "% x w\na b x", "a b\n% x w", "x y\nx y", nodes(30) + "x y", "! 9 9\nx y"};
        for (int fault = 1; fault <= wrong.length; fault++) {
            GraphTexts x = new GraphTexts();
            x.manner(WRONG);
            C.same("FAULT " + fault, Checks.read(x, wrong[fault - 1]), -10 - fault);
            C.same("nothing at first", x.print(), GraphTexts.STATE);
            Checks.read(x, "# c\n% k g\na b 1.5\nb a -\n");
            String before = Checks.graph(x);
            C.same("FAULT " + fault + " again", Checks.read(x, wrong[fault - 1]), -10 - fault);
            C.same("it stays", Checks.graph(x), before);
            C.same("it is WRITTEN still", Checks.written(x), "# c\n% k d\na b 1.5\nb a -\n");
            C.same("then without a FAULT", Checks.read(x, "c d"), 1);
            C.same("what was read, and no more", Checks.graph(x), "node c\nnode d\narc 0 1 0\n");
        }
        C.same("the empty TEXT is read to a GRAPH", new GraphTexts().read(), 0);
        GraphTexts full = new GraphTexts();
        for (char sign = 'a'; sign <= 'f'; sign++) {
            String line = "#" + ("" + sign).repeat(20) + "\n";
            C.same("nearly 600 bytes again", Checks.read(full, line.repeat(27)), 0);
            C.same("all COMMENTS", full.about(5), 27);
            C.same("the last byte", full.comment(26, 19), sign);
        }
        String[] texts = {"", "a b", "! 3 2\n\na b\nb c", "#x\n% k t\na b long\na b -\nb a y", "% m g\n% n g\nx y 1 2.5",
            "% o d\n\n#\nz z 0.001\nz z 2", "a b\n% x w"};
        for (String first : texts) {
            for (String second : texts) {
                for (String third : texts) {
                    readOneBehindTheOther(first, second, third);
                }
            }
        }
    }

    /** An object that has read before tells what a new one tells. */
    private static void readOneBehindTheOther(String first, String second, String third) {
        GraphTexts used = Checks.reading(first, LEFT_OUT);
        Checks.read(used, second);
        boolean wrong = Checks.read(used, third) < 0;
        GraphTexts fresh = Checks.reading(first, LEFT_OUT);
        if (Checks.read(Checks.reading("", LEFT_OUT), second) >= 0) {
            fresh = Checks.reading(second, LEFT_OUT);
        }
        if (!wrong) {
            fresh = Checks.reading(third, LEFT_OUT);
        }
        String what = "<" + third + "> behind <" + second + "> behind <" + first + ">";
        C.same(what, Checks.graph(used), Checks.graph(fresh));
        C.same(what + " WRITTEN", Checks.written(used), Checks.written(fresh));
        C.same(what + " LEFT OUT", used.about(4), fresh.about(4));
        for (int arc = 0; arc < fresh.about(2); arc++) {
            C.same(what + " LINE of ARC " + arc, used.arc(arc, 2), fresh.arc(arc, 2));
        }
    }
}
