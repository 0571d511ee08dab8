/** Promises 1, 2 and 5 to 16: answers, edges and refusals. */
public final class PromiseTest {
    private static final Checks C = new Checks("PromiseTest");
    private static final int NONE = -1, UNKNOWN = -101, OUTSIDE = -102, STATE = -103, FULL = -104;
    private static final Class<?> INDEX = ArrayIndexOutOfBoundsException.class;
    private static final Class<?> NULL = NullPointerException.class;
    private static final Class<?> CAST = ClassCastException.class;
    private static final int[] FAR = {Integer.MIN_VALUE, -1000, -1, 1000, Integer.MAX_VALUE};

    private static final String MIXED = "# one\n! 4 4\n% w w\n% \"d\\\"\" d\n%  t  g\n"
        + "a b 5 -0.101 x\n\n \"a\" \"c d\" - 7 -5\na \"\\\\\\\"\" -999999 999999 1.50\nb b - - -\n#  \n#";

    public static void main(String[] args) {
        newObject();
        feed();
        read();
        fault();
        manner();
        find();
        node();
        arc();
        kind();
        head();
        value();
        sign();
        comment();
        print();
        out();
        about();
        C.end();
    }

    private static void newObject() {
        GraphTexts x = new GraphTexts();
        for (int what = 0; what <= 6; what++) {
            C.same("new about(" + what + ")", x.about(what), 0);
        }
        C.same("new print()", x.print(), STATE);
        C.same("new fault(0)", x.fault(0), NONE);
        C.same("new fault(1)", x.fault(1), NONE);
        C.same("new find()", x.find(), NONE);
        C.same("new node", x.node(0, 0), UNKNOWN);
        C.same("new arc", x.arc(0, 0), UNKNOWN);
        C.same("new kind", x.kind(0), UNKNOWN);
        C.same("new head", x.head(0, 0), UNKNOWN);
        C.same("new value", x.value(0, 0), UNKNOWN);
        C.same("new sign", x.sign(0, 0, 0), UNKNOWN);
        C.same("new comment", x.comment(0, 0), UNKNOWN);
        C.thrown("new out(0)", INDEX, () -> x.out(0));
        C.same("new manner", x.manner(0), 0);
    }

    private static void feed() {
        GraphTexts x = new GraphTexts();
        C.same("feed(0)", x.feed(0, 97), OUTSIDE);
        C.same("feed(9)", x.feed(9, 97), OUTSIDE);
        C.same("feed(-1)", x.feed(-1, 97), OUTSIDE);
        C.same("feed(MIN)", x.feed(Integer.MIN_VALUE, 97), OUTSIDE);
        C.same("feed(MAX)", x.feed(Integer.MAX_VALUE, 97), OUTSIDE);
        C.same("nothing fed", x.about(0), 0);
        C.same("the lowest byte", x.feed(1, 0x6261L), 1);
        C.same("the highest first", x.feed(3, 0x7f7f7f7f7f206220L), 4);
        C.same("read of them", x.read(), 1);
        C.same("from", Checks.nodeName(x, 0), "a");
        C.same("to", Checks.nodeName(x, 1), "b");
        C.same("eight bytes, the highest bit set", x.feed(8, 0x2380000000000000L), 8);
        C.same("a byte above 127", x.read(), -11);
        C.same("its PLACE", x.fault(1), 2);
        C.same("feed(8, -1)", x.feed(8, -1L), 8);
        C.same("bytes 255", x.read(), -11);
        C.same("their PLACE", x.fault(1), 1);
        for (int k = 1; k <= 74; k++) {
            C.same("feed " + k, x.feed(8, 0x2020202020202020L), 8 * k);
        }
        C.same("feed(7) to 599", x.feed(7, 0x20202020202020L), 599);
        C.same("FULL by one", x.feed(2, 0x2020L), FULL);
        C.same("FULL by seven", x.feed(8, 0x2020L), FULL);
        C.same("OUTSIDE before FULL", x.feed(9, 0x2020L), OUTSIDE);
        C.same("FULL changes nothing", x.about(0), 599);
        C.same("feed(1) to 600", x.feed(1, 'a'), 600);
        C.same("FULL at 600", x.feed(1, 'b'), FULL);
        C.same("read of 600", x.read(), -11);
        C.same("PLACE behind 600", x.fault(1), 601);
        C.same("empty then", x.about(0), 0);
    }

    private static void read() {
        GraphTexts x = new GraphTexts();
        C.same("read() of nothing", x.read(), 0);
        C.same("a GRAPH is there", x.print(), 0);
        C.same("read of two", Checks.read(x, "a b\nb c"), 2);
        C.same("THE TEXT is empty then", x.about(0), 0);
        C.same("a FAULT", Checks.read(x, "a b c"), -11);
        C.same("THE TEXT is empty after a FAULT", x.about(0), 0);
        C.same("the GRAPH stays", x.about(2), 2);
        C.same("the NODES stay", x.about(1), 3);
    }

    private static void fault() {
        GraphTexts x = Checks.reading("a b\n a b c");
        C.same("LINE", x.fault(0), 2);
        C.same("PLACE", x.fault(1), 6);
        C.same("again", x.fault(0), 2);
        C.same("OUTSIDE with a FAULT", x.fault(2), OUTSIDE);
        C.same("OUTSIDE below", x.fault(-1), OUTSIDE);
        Checks.feed(x, "a b");
        C.same("feed leaves it", x.fault(1), 6);
        x.find();
        C.same("find leaves it", x.fault(1), 6);
        x.read();
        C.same("NONE", x.fault(0), NONE);
        for (int what : FAR) {
            C.same("OUTSIDE without one", x.fault(what), OUTSIDE);
        }
    }

    private static void manner() {
        GraphTexts x = new GraphTexts();
        C.same("was 0", x.manner(1), 0);
        C.same("was 1", x.manner(2), 1);
        C.same("OUTSIDE 3", x.manner(3), OUTSIDE);
        for (int m : FAR) {
            C.same("OUTSIDE", x.manner(m), OUTSIDE);
        }
        C.same("still 2", x.manner(0), 2);
        String twice = "% c g\na b 1\na b x\nb a 2";
        C.same("KEPT", Checks.read(x, twice), 3);
        C.same("KEPT: its VALUE counts", x.kind(0), 2);
        C.same("KEPT: none LEFT OUT", x.about(4), 0);
        x.manner(1);
        C.same("LEFT OUT", Checks.read(x, twice), 2);
        C.same("LEFT OUT: how many", x.about(4), 1);
        C.same("LEFT OUT: its VALUE does not count", x.kind(0), 0);
        C.same("the next one's VALUE", x.value(1, 0), 2000);
        C.same("the next one's LINE", x.arc(1, 2), 4);
        C.same("LEFT OUT is not WRITTEN", Checks.written(x), "% c w\na b 1\nb a 2\n");
        x.manner(2);
        C.same("WRONG", Checks.read(x, twice), -15);
        C.same("the MANNER of a GRAPH stays with it", x.about(4), 1);
        x.manner(0);
        C.same("KEPT again", Checks.read(x, twice), 3);
        C.same("none LEFT OUT again", x.about(4), 0);
    }

    private static void find() {
        GraphTexts x = Checks.reading(MIXED);
        C.same("a", Checks.find(x, "a"), 0);
        C.same("THE TEXT is empty then", x.about(0), 0);
        C.same("b", Checks.find(x, "b"), 1);
        C.same("c d", Checks.find(x, "c d"), 2);
        C.same("signs without their \\", Checks.find(x, "\\\""), 3);
        C.same("quotes are bytes", Checks.find(x, "\"a\""), NONE);
        C.same("nothing", x.find(), NONE);
        C.same("a longer one", Checks.find(x, "ab"), NONE);
        C.same("a beginning", Checks.find(x, "c "), NONE);
        C.same("a BLANK ahead", Checks.find(x, " a"), NONE);
        C.same("a 10 behind", Checks.find(x, "a\n"), NONE);
        C.same("a long TEXT", Checks.find(x, "a".repeat(600)), NONE);
        C.same("THE TEXT is empty after NONE", x.about(0), 0);
        C.same("a HEAD is no NODE", Checks.find(x, "w"), NONE);
        C.same("a VALUE is no NODE", Checks.find(x, "x"), NONE);
        C.same("the GRAPH stays", x.about(2), 4);
    }

    private static void node() {
        GraphTexts x = Checks.reading(MIXED);
        C.same("NODE 0", Checks.nodeName(x, 0), "a");
        C.same("NODE 1", Checks.nodeName(x, 1), "b");
        C.same("NODE 2", Checks.nodeName(x, 2), "c d");
        C.same("NODE 3", Checks.nodeName(x, 3), "\\\"");
        C.same("NODE 4", x.node(4, 0), UNKNOWN);
        for (int far : FAR) {
            C.same("UNKNOWN before the sign", x.node(far, far), UNKNOWN);
            C.thrown("sign " + far, INDEX, () -> x.node(0, far));
        }
        C.thrown("one behind", INDEX, () -> x.node(2, 3));
        GraphTexts eight = Checks.reading("12345678 \"        \"");
        C.same("eight signs", Checks.nodeName(eight, 0), "12345678");
        C.same("eight BLANKS", Checks.nodeName(eight, 1), "        ");
    }

    private static void arc() {
        GraphTexts x = Checks.reading(MIXED);
        int[][] due = {{0, 1, 6, 0}, {0, 2, 8, 1}, {0, 3, 9, 0}, {1, 1, 10, 3}};
        for (int arc = 0; arc < 4; arc++) {
            for (int what = 0; what < 4; what++) {
                C.same("arc(" + arc + ", " + what + ")", x.arc(arc, what), due[arc][what]);
            }
        }
        C.same("ARC 4", x.arc(4, 0), UNKNOWN);
        C.same("what 4", x.arc(0, 4), OUTSIDE);
        for (int far : FAR) {
            C.same("UNKNOWN before OUTSIDE", x.arc(far, far), UNKNOWN);
            C.same("OUTSIDE", x.arc(0, far), OUTSIDE);
        }
    }

    private static void kindOf(String values, int due) {
        StringBuilder text = new StringBuilder("% c g\n");
        for (String value : values.split(" ")) {
            text.append("a b ").append(value).append('\n');
        }
        C.same("kind of " + values, Checks.reading(text.toString()).kind(0), due);
    }

    private static void kind() {
        GraphTexts x = Checks.reading(MIXED);
        C.same("w", x.kind(0), 0);
        C.same("d", x.kind(1), 1);
        C.same("g as t", x.kind(2), 2);
        C.same("COLUMN 3", x.kind(3), UNKNOWN);
        for (int far : FAR) {
            C.same("far", x.kind(far), UNKNOWN);
        }
        kindOf("- -", 0);
        kindOf("1 - -5", 0);
        kindOf("1 1.0", 1);
        kindOf("-0.5 -", 1);
        kindOf("1.5 2 x", 2);
        kindOf("\"5\"", 2);
        kindOf("007", 2);
        kindOf("1234567", 2);
        kindOf("123456 -123456", 0);
        kindOf("1 1_", 2);
        C.same("g without ARCS", Checks.reading("% c g").kind(0), 0);
        GraphTexts told = Checks.reading("% a d\n% b t\n% c w\nx y 5 5 -");
        C.same("d of WHOLES stays d", told.kind(0), 1);
        C.same("t of figures stays t", told.kind(1), 2);
        C.same("w of nothing stays w", told.kind(2), 0);
        GraphTexts two = Checks.reading("% a g\n% b g\n% c g\nx y 1 1.5 z\nx y 2 7 -");
        C.same("each COLUMN for itself 0", two.kind(0), 0);
        C.same("each COLUMN for itself 1", two.kind(1), 1);
        C.same("each COLUMN for itself 2", two.kind(2), 2);
    }

    private static void head() {
        GraphTexts x = Checks.reading(MIXED);
        C.same("HEAD 0", Checks.headName(x, 0), "w");
        C.same("HEAD 1", Checks.headName(x, 1), "d\"");
        C.same("HEAD 2", Checks.headName(x, 2), "t");
        C.same("HEAD 3", x.head(3, 0), UNKNOWN);
        for (int far : FAR) {
            C.same("UNKNOWN before the sign", x.head(far, far), UNKNOWN);
            C.thrown("sign " + far, INDEX, () -> x.head(1, far));
        }
        C.thrown("one behind", INDEX, () -> x.head(1, 2));
    }

    private static void value() {
        GraphTexts x = Checks.reading(MIXED);
        C.same("w 5", x.value(0, 0), 5000);
        C.same("d -0.101, as UNKNOWN", x.value(0, 1), -101);
        C.same("d 7", x.value(1, 1), 7000);
        C.same("w -999999", x.value(2, 0), -999999000);
        C.same("d 999999", x.value(2, 1), 999999000);
        C.thrown("MISSING in w", NULL, () -> x.value(1, 0));
        C.thrown("MISSING in d", NULL, () -> x.value(3, 1));
        C.thrown("MISSING in t", NULL, () -> x.value(3, 2));
        C.thrown("a NAME", CAST, () -> x.value(0, 2));
        C.thrown("a number that is a NAME", CAST, () -> x.value(1, 2));
        C.same("ARC 4", x.value(4, 0), UNKNOWN);
        C.same("COLUMN 3", x.value(0, 3), UNKNOWN);
        for (int far : FAR) {
            C.same("far ARC", x.value(far, 2), UNKNOWN);
            C.same("far COLUMN", x.value(0, far), UNKNOWN);
        }
        String[] words = {"0", "-0.0", "0.5", "-0.5", "1.05", "-1.005", "999.999", "-999.999", "12.3", "10.010", "100", "-7"};
        int[] due = {0, 0, 500, -500, 1050, -1005, 999999, -999999, 12300, 10010, 100000, -7000};
        for (int k = 0; k < words.length; k++) {
            C.same("d " + words[k], Checks.reading("% c d\na b " + words[k]).value(0, 0), due[k]);
            C.same("g " + words[k], Checks.reading("% c g\na b " + words[k]).value(0, 0), due[k]);
        }
    }

    private static void sign() {
        GraphTexts x = Checks.reading(MIXED);
        C.same("x", Checks.valueName(x, 0, 2), "x");
        C.same("-5 as it stands", Checks.valueName(x, 1, 2), "-5");
        C.same("1.50 as it stands", Checks.valueName(x, 2, 2), "1.50");
        C.thrown("MISSING in t", NULL, () -> x.sign(3, 2, 0));
        C.thrown("MISSING in w, no sign either", NULL, () -> x.sign(1, 0, 99));
        C.thrown("a number", CAST, () -> x.sign(0, 0, 0));
        C.thrown("a number, no sign either", CAST, () -> x.sign(0, 1, -1));
        C.thrown("one behind", INDEX, () -> x.sign(2, 2, 4));
        C.same("ARC 4", x.sign(4, 2, 0), UNKNOWN);
        C.same("COLUMN 3", x.sign(0, 3, 0), UNKNOWN);
        for (int far : FAR) {
            C.same("far ARC", x.sign(far, 2, far), UNKNOWN);
            C.same("far COLUMN", x.sign(0, far, far), UNKNOWN);
            C.thrown("far sign", INDEX, () -> x.sign(0, 2, far));
        }
        GraphTexts t = Checks.reading("% c t\na b \"\\\\ \\\"~\"\na b 007\na b \"-\"\na b -");
        C.same("a QUOTED one", Checks.valueName(t, 0, 0), "\\ \"~");
        C.same("figures", Checks.valueName(t, 1, 0), "007");
        C.same("a QUOTED -", Checks.valueName(t, 2, 0), "-");
        C.same("its MISSING", t.arc(2, 3), 0);
        C.same("MISSING", t.arc(3, 3), 1);
        GraphTexts g = Checks.reading("% c g\na b -999.990\na b -0.0\na b x\na b -999999\na b 00\na b 12345678\na b \"1\"");
        String[] due = {"-999.990", "-0.0", "x", "-999999", "00", "12345678", "1"};
        for (int arc = 0; arc < due.length; arc++) {
            C.same("g " + arc, Checks.valueName(g, arc, 0), due[arc]);
        }
        GraphTexts most = Checks.reading("% x w\n% y d\n% z t\n" + "a a 1 2 x\n".repeat(39) + "a a 7 0.5 last");
        C.same("the VALUES of ARC 39 in w", most.value(39, 0), 7000);
        C.same("the VALUES of ARC 39 in d", most.value(39, 1), 500);
        C.same("the VALUES of ARC 39 in t", Checks.valueName(most, 39, 2), "last");
        GraphTexts gaps = Checks.reading("% x w\n% y d\n% z t\n" + "a a - - -\n".repeat(40));
        C.same("the MISSING of ARC 39", gaps.arc(39, 3), 3);
        C.thrown("the VALUE of ARC 39", NULL, () -> gaps.value(39, 2));
        GraphTexts left = Checks.reading("% c t\na b one\na b two\nb a three\nb a four\nb b five", 1);
        C.same("behind one LEFT OUT", Checks.valueName(left, 1, 0), "three");
        C.same("behind two LEFT OUT", Checks.valueName(left, 2, 0), "five");
        C.same("g WRITTEN", Checks.written(g), "% c t\na b \"-999.990\"\na b \"-0.0\"\na b x\na b \"-999999\"\na b 00\n"
            + "a b 12345678\na b 1\n");
    }

    private static void comment() {
        GraphTexts x = Checks.reading(MIXED);
        C.same("COMMENT 0", Checks.commentBytes(x, 0), " one");
        C.same("COMMENT 1", Checks.commentBytes(x, 1), "  ");
        C.same("COMMENT 2", Checks.commentBytes(x, 2), "");
        C.same("COMMENT 3", x.comment(3, 0), UNKNOWN);
        C.thrown("an empty COMMENT", INDEX, () -> x.comment(2, 0));
        for (int far : FAR) {
            C.same("UNKNOWN before the byte", x.comment(far, far), UNKNOWN);
            C.thrown("byte " + far, INDEX, () -> x.comment(0, far));
        }
        GraphTexts many = Checks.reading("#\n".repeat(300));
        C.same("300 COMMENTS", many.about(5), 300);
        C.thrown("the last of them", INDEX, () -> many.comment(299, 0));
        C.same("one behind", many.comment(300, 0), UNKNOWN);
        C.same("WRITTEN", Checks.written(many), "#\n".repeat(300));
        GraphTexts big = Checks.reading("  #12345678901234567890\n");
        C.same("20 bytes", Checks.commentBytes(big, 0), "12345678901234567890");
    }

    private static void writtenAs(String text, String due) {
        GraphTexts x = Checks.reading(text);
        C.same("<" + text + "> WRITTEN", Checks.written(x), due);
    }

    private static void print() {
        writtenAs("", "");
        writtenAs("\n  \n", "");
        writtenAs(MIXED, "# one\n! 4 4\n% w w\n% \"d\\\"\" d\n% t t\na b 5 -0.101 x\na \"c d\" - 7 \"-5\"\n"
            + "a \"\\\\\\\"\" -999999 999999 \"1.50\"\nb b - - -\n#  \n#\n");
        writtenAs("a b\n  ! 02  01 \n   # x  ", "a b\n! 2 1\n# x  \n");
        writtenAs("! 00 0", "! 0 0\n");
        writtenAs("! 10 05\n" + "a b\nc d\ne f\ng h\ni j", "! 10 5\na b\nc d\ne f\ng h\ni j\n");
        writtenAs("\"a\" \"A\"\n\"_\" \"a-b\"\n\"0\" \" \"", "a \"A\"\n_ \"a-b\"\n0 \" \"\n");
        writtenAs("% \"k\" g\n% \"K\" g", "% k w\n% \"K\" w\n");
        String[] words = {"0", "0.0", "-0.0", "-0.000", "1.000", "1.500", "1.050", "-0.001", "100", "100.100", "-999.990",
            "999999", "-100000", "10.0", "0.010"};
        String[] due = {"0", "0", "0", "0", "1", "1.5", "1.05", "-0.001", "100", "100.1", "-999.99", "999999", "-100000",
            "10", "0.01"};
        for (int k = 0; k < words.length; k++) {
            writtenAs("% c d\na b " + words[k], "% c d\na b " + due[k] + "\n");
        }
        writtenAs("% c g\na b 1.0", "% c d\na b 1\n");
        // More bytes than THE TEXT may have: each number that becomes a NAME gets its quotes.
        String grown = "% a g\n% b g\n% c g\na a x x x\n" + "a a -5 -5 -5\n".repeat(39);
        GraphTexts x = Checks.reading(grown);
        C.same("grown", Checks.written(x), "% a t\n% b t\n% c t\na a x x x\n" + "a a \"-5\" \"-5\" \"-5\"\n".repeat(39));
        C.same("grown bytes", x.about(6), 18 + 10 + 39 * 19);
        C.same("print again", x.print(), 18 + 10 + 39 * 19);
    }

    private static void out() {
        GraphTexts x = Checks.reading("a b");
        C.thrown("before print", INDEX, () -> x.out(0));
        C.same("print", x.print(), 4);
        C.same("byte 0", x.out(0), 'a');
        C.same("byte 1", x.out(1), ' ');
        C.same("byte 2", x.out(2), 'b');
        C.same("byte 3", x.out(3), 10);
        C.thrown("byte 4", INDEX, () -> x.out(4));
        for (int far : FAR) {
            C.thrown("byte " + far, INDEX, () -> x.out(far));
        }
        Checks.read(x, "# other");
        C.same("WRITTEN stays when another is read", x.out(0), 'a');
        C.same("its bytes stay", x.about(6), 4);
        C.same("print of the other", x.print(), 8);
        C.same("byte 0 of the other", x.out(0), '#');
        x.read();
        x.print();
        C.thrown("nothing WRITTEN latest", INDEX, () -> x.out(0));
    }

    private static void about() {
        GraphTexts x = new GraphTexts();
        x.manner(1);
        Checks.read(x, "# c\n% k w\n% l t\na b 1 x\na b 2 y\nc a 3 z\nc a - -\n#");
        Checks.feed(x, "12345");
        int[] due = {5, 3, 2, 2, 2, 2, 0};
        for (int what = 0; what < due.length; what++) {
            C.same("about(" + what + ")", x.about(what), due[what]);
        }
        C.same("print", x.print(), Checks.written(x).length());
        C.same("about(6)", x.about(6), Checks.written(x).length());
        C.same("about(7)", x.about(7), OUTSIDE);
        for (int far : FAR) {
            C.same("about(" + far + ")", x.about(far), OUTSIDE);
        }
    }
}
