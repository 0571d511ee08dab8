/** WRITTEN, the refusals and promises 1 to 16: each sentence of the document that names an edge, and its test. */
public final class PromiseSentencesTest {
    private static final Checks C = new Checks("PromiseSentencesTest");
    private static final Document D = new Document(C, "======== 3 WRITTEN", "How the state is held inside");
    private static final int NONE = -1, UNKNOWN = -101, OUTSIDE = -102, STATE = -103, FULL = -104;
    private static final Class<?> INDEX = ArrayIndexOutOfBoundsException.class;
    private static final Class<?> NULL = NullPointerException.class;
    private static final Class<?> CAST = ClassCastException.class;
    private static final int[] BELOW = {-1, -2, -1000, Integer.MIN_VALUE + 1, Integer.MIN_VALUE};

    /** Three NODES, two ARCS, a COLUMN of each KIND, two COMMENTS. */
    private static final String SMALL = "# c\n% w w\n% de d\n% t t\na b 5 -0.101 xyz\nb \"c d\" - - -\n#";

    public static void main(String[] args) {
        writtenLines();
        writtenNames();
        writtenNumbers();
        refusals();
        newObject();
        feed();
        read();
        fault();
        manner();
        find();
        node();
        arc();
        kind();
        head();
        value();
        sign();
        comment();
        print();
        out();
        about();
        D.end();
        C.end();
    }

    private static void writtenAs(String text, String due) {
        C.same("<" + text + "> WRITTEN", Checks.written(Checks.reading(text)), due);
    }

    private static void writtenLines() {
        D.says("======== 3 WRITTEN: LINES of COMMENTS, COUNT, HEADS (with THE KIND), ARCS of THE GRAPH in THE TEXT's order, "
            + "each ended by 10, WORDS with one BLANK between, none at the ends (a COMMENT as it is);");
        writtenAs("", "");
        writtenAs("\n   \n", "");
        writtenAs("a b", "a b\n");
        writtenAs("a b\n", "a b\n");
        writtenAs("  a    b   ", "a b\n");
        writtenAs("   #  x  ", "#  x  \n");
        writtenAs("#", "#\n");
        writtenAs("  !  2   1 \n a  b ", "! 2 1\na b\n");
        writtenAs("#1\n  %  x   t  \n#2\na b c\n#3\n!  2  1\n\n#4\n", "#1\n% x t\n#2\na b c\n#3\n! 2 1\n#4\n");
        writtenAs("% x g\n% y g\n% z g\na b 1 1.5 c", "% x w\n% y d\n% z t\na b 1 1.5 c\n");
        writtenAs("% x w\n% y d\n% z t\na   b -  -   -", "% x w\n% y d\n% z t\na b - - -\n");
        writtenAs("% x g", "% x w\n");
        GraphTexts x = Checks.reading("a b\n# x\na b\n# y\nb a", 1);
        C.same("what is LEFT OUT is not WRITTEN", Checks.written(x), "a b\n# x\n# y\nb a\n");
        writtenAs("#\n".repeat(300), "#\n".repeat(300));
        // 600 bytes that grow most: one NAME in each guessed COLUMN makes all its numbers NAMES, which need quotes.
        String comment = "#" + "~".repeat(20);
        String most = "% a g\n% b g\n% c g\na a x x x\n" + "a a -5 -5 -5\n".repeat(39) + (comment + "\n").repeat(2) + comment;
        C.same("bytes that grow", most.length(), 600);
        writtenAs(most, "% a t\n% b t\n% c t\na a x x x\n" + "a a \"-5\" \"-5\" \"-5\"\n".repeat(39)
            + (comment + "\n").repeat(3));
    }

    private static void writtenNames() {
        D.says("NAMES PLAIN where they can be;");
        writtenAs("\"a\" \"z\"\n\"0\" \"9\"\n\"_\" \"12345678\"", "a z\n0 9\n_ 12345678\n");
        for (char sign = 32; sign <= 126; sign++) {
            boolean plain = sign >= 'a' && sign <= 'z' || sign >= '0' && sign <= '9' || sign == '_';
            String quoted = (sign == '"' || sign == '\\' ? "\"x\\" : "\"x") + sign + "\"";
            writtenAs("a " + quoted, "a " + (plain ? "x" + sign : quoted) + "\n");
        }
        writtenAs("% \"x\" t\n\"a\" b \"5\"", "% x t\na b 5\n");
        writtenAs("% \"X\" t\na b \"-\"", "% \"X\" t\na b \"-\"\n");
        writtenAs("% x g\na b -5\na b \"7\"", "% x t\na b \"-5\"\na b 7\n");
    }

    private static void writtenNumbers() {
        D.says("NUMBERS and DECIMALS without 0s that need not be (no point without figures behind it: WHOLE then; 0 without "
            + "-).");
        writtenAs("! 00 00", "! 0 0\n");
        writtenAs("! 02 01\na b", "! 2 1\na b\n");
        String ten = "a b\nc d\ne f\ng h\ni j\na c\na d\na e\na f\na g\n";
        writtenAs("! 10 10\n" + ten, "! 10 10\n" + ten);
        String[][] words = {{"0", "0"}, {"0.0", "0"}, {"0.000", "0"}, {"-0.0", "0"}, {"-0.000", "0"}, {"5.0", "5"},
            {"-5.000", "-5"}, {"5.10", "5.1"}, {"5.100", "5.1"}, {"5.010", "5.01"}, {"5.001", "5.001"}, {"0.5", "0.5"},
            {"-0.5", "-0.5"}, {"-0.001", "-0.001"}, {"100.0", "100"}, {"10", "10"}, {"-100000", "-100000"},
            {"999999", "999999"}, {"999.999", "999.999"}, {"-999.990", "-999.99"}};
        for (String[] word : words) {
            writtenAs("% c d\na b " + word[0], "% c d\na b " + word[1] + "\n");
        }
        writtenAs("% c g\na b 5.0", "% c d\na b 5\n");
        writtenAs("% c g\na b 5.0\na b x", "% c t\na b \"5.0\"\na b x\n");
    }

    /** All calls that are refused, or throw, whatever this object (in the state of SMALL) has been fed. */
    private static void callInVain(GraphTexts x) {
        for (int n : new int[] {0, 9, -1, Integer.MIN_VALUE, Integer.MAX_VALUE}) {
            C.same("feed in vain", x.feed(n, 0x6120620aL), OUTSIDE);
        }
        C.same("fault in vain", x.fault(2), OUTSIDE);
        C.same("manner in vain", x.manner(3), OUTSIDE);
        C.same("manner in vain", x.manner(-1), OUTSIDE);
        C.same("node in vain", x.node(3, 0), UNKNOWN);
        C.same("arc in vain", x.arc(2, 0), UNKNOWN);
        C.same("arc in vain", x.arc(0, 4), OUTSIDE);
        C.same("kind in vain", x.kind(3), UNKNOWN);
        C.same("head in vain", x.head(3, 0), UNKNOWN);
        C.same("value in vain", x.value(2, 0), UNKNOWN);
        C.same("sign in vain", x.sign(0, 3, 0), UNKNOWN);
        C.same("comment in vain", x.comment(2, 0), UNKNOWN);
        C.same("about in vain", x.about(7), OUTSIDE);
        C.thrown("node", INDEX, () -> x.node(0, 1));
        C.thrown("head", INDEX, () -> x.head(0, 1));
        C.thrown("value", NULL, () -> x.value(1, 0));
        C.thrown("value", CAST, () -> x.value(0, 2));
        C.thrown("sign", NULL, () -> x.sign(1, 2, 0));
        C.thrown("sign", CAST, () -> x.sign(0, 0, 0));
        C.thrown("sign", INDEX, () -> x.sign(0, 2, 3));
        C.thrown("comment", INDEX, () -> x.comment(1, 0));
        C.thrown("out", INDEX, () -> x.out(x.about(6)));
    }

    private static String state(GraphTexts x) {
        StringBuilder all = new StringBuilder(Checks.graph(x));
        for (int what = 0; what <= 6; what++) {
            all.append(' ').append(x.about(what));
        }
        for (int i = 0; i < x.about(6); i++) {
            all.append(' ').append(x.out(i));
        }
        return all.append(" fault ").append(x.fault(0)).append(' ').append(x.fault(1)).toString();
    }

    private static void refusals() {
        D.says("Refusals are answers, and change nothing: UNKNOWN (a number names nothing), OUTSIDE (not as told), STATE, "
            + "FULL; of several the first one that the call tells.");
        GraphTexts x = Checks.reading(SMALL);
        x.manner(2);
        x.print();
        Checks.read(x, "a b c");
        String before = state(x);
        callInVain(x);
        C.same("nothing has changed", state(x), before);
        Checks.feed(x, "c d");
        callInVain(x);
        C.same("THE TEXT is as it was fed", x.find(), 2);
        Checks.feed(x, " ".repeat(597) + "a b");
        String whole = state(x);
        callInVain(x);
        C.same("FULL", x.feed(1, 'x'), FULL);
        C.same("FULL by eight", x.feed(8, 'x'), FULL);
        C.same("nothing has changed by FULL", state(x), whole);
        C.same("THE TEXT is as it was fed to its end", x.read(), 1);
        C.same("the MANNER is as it was", x.manner(0), 2);
        GraphTexts empty = new GraphTexts();
        Checks.feed(empty, "a b");
        String none = state(empty);
        C.same("STATE", empty.print(), STATE);
        C.same("nothing has changed by STATE", state(empty), none);
        C.same("THE TEXT neither", empty.read(), 1);
        Checks.feed(empty, " ".repeat(600));
        C.same("feed tells OUTSIDE before FULL", empty.feed(9, 0), OUTSIDE);
        C.same("arc tells UNKNOWN before OUTSIDE", empty.arc(1, 4), UNKNOWN);
        C.same("node tells UNKNOWN before it throws", empty.node(2, -1), UNKNOWN);
        C.same("head tells UNKNOWN before it throws", empty.head(0, -1), UNKNOWN);
        C.same("comment tells UNKNOWN before it throws", empty.comment(0, -1), UNKNOWN);
        C.same("sign tells UNKNOWN before it throws", empty.sign(0, 0, -1), UNKNOWN);
    }

    private static void newObject() {
        D.says("An empty TEXT, no GRAPH, nothing WRITTEN.");
        GraphTexts x = new GraphTexts();
        C.same("an empty TEXT", x.about(0), 0);
        C.same("no GRAPH", x.print(), STATE);
        for (int what = 1; what <= 5; what++) {
            C.same("nothing of a GRAPH", x.about(what), 0);
        }
        C.same("nothing WRITTEN", x.about(6), 0);
        C.thrown("no byte of it", INDEX, () -> x.out(0));
        C.same("one object", Checks.read(x, "a b"), 1);
        C.same("knows nothing of another", new GraphTexts().about(1), 0);
    }

    private static void feed() {
        D.says("The n lowest bytes of w, the highest of them first, come behind THE TEXT: how many it has.");
        String bytes = "#abcdefg";
        long w = 0x2361626364656667L;
        for (int n = 1; n <= 8; n++) {
            GraphTexts x = new GraphTexts();
            C.same("#", x.feed(1, '#'), 1);
            C.same("the " + n + " lowest bytes", x.feed(n, w), 1 + n);
            x.read();
            C.same("in order", Checks.commentBytes(x, 0), bytes.substring(8 - n));
        }
        GraphTexts x = new GraphTexts();
        C.same("bytes above the lowest do not count", x.feed(1, 0xffffffffffffff00L | '#'), 1);
        C.same("behind it", x.feed(2, -1L << 16 | 0x7e20), 3);
        C.same("behind that", x.feed(1, 'z'), 4);
        C.same("read", x.read(), 0);
        C.same("all of them", Checks.commentBytes(x, 0), "~ z");
        C.same("a negative w", x.feed(8, -1L), 8);
        C.same("is bytes 255", x.read(), -11);
        C.same("the lowest long", x.feed(8, Long.MIN_VALUE), 8);
        C.same("begins with byte 128", x.read(), -11);

        D.says("OUTSIDE: n is not 1 .. 8; FULL.");
        for (int n : new int[] {0, -1, 9, 10, -8, 257, Integer.MAX_VALUE, Integer.MIN_VALUE}) {
            C.same("feed(" + n + ")", x.feed(n, 'a'), OUTSIDE);
        }
        C.same("nothing came", x.about(0), 0);
        for (int room = 0; room <= 8; room++) {
            GraphTexts y = new GraphTexts();
            Checks.feed(y, " ".repeat(600 - room));
            for (int n = 8; n > room; n--) {
                C.same("room " + room + ", feed(" + n + ")", y.feed(n, 0), FULL);
            }
            C.same("still that room", y.about(0), 600 - room);
            if (room > 0) {
                C.same("the room is filled", y.feed(room, 0), 600);
            }
        }
    }

    private static void read() {
        D.says("THE TEXT, which is empty then, is READ: how many ARCS THE GRAPH has; -10 less the FAULT.");
        GraphTexts x = new GraphTexts();
        C.same("nothing is READ", x.read(), 0);
        C.same("none", Checks.read(x, "# none"), 0);
        C.same("one", Checks.read(x, "a b"), 1);
        C.same("empty then", x.about(0), 0);
        C.same("forty", Checks.read(x, "a b\n".repeat(40)), 40);
        C.same("SIGN", Checks.read(x, "a"), -11);
        C.same("empty then, too", x.about(0), 0);
        C.same("LONG", Checks.read(x, "123456789"), -12);
        C.same("KIND", Checks.read(x, "% x w\na b c"), -13);
        C.same("ORDER", Checks.read(x, "a b\n%"), -14);
        x.manner(2);
        C.same("DOUBLED", Checks.read(x, "a b\na b"), -15);
        x.manner(0);
        C.same("FULL", Checks.read(x, "a b\n".repeat(41)), -16);
        C.same("LIES", Checks.read(x, "! 1 1\na b"), -17);
        C.same("THE GRAPH stays", x.about(2), 40);
        x.manner(1);
        C.same("those LEFT OUT are none", Checks.read(x, "a b\n".repeat(41)), 1);
        C.same("nothing is READ again", x.read(), 0);
    }

    private static void fault() {
        D.says("The LINE (what = 0), the PLACE (1) of the FAULT of the latest read(); NONE without one. OUTSIDE.");
        GraphTexts x = new GraphTexts();
        C.same("no read yet: LINE", x.fault(0), NONE);
        C.same("no read yet: PLACE", x.fault(1), NONE);
        Checks.read(x, "a b\na b\n   ?");
        C.same("LINE", x.fault(0), 3);
        C.same("PLACE", x.fault(1), 4);
        Checks.read(x, "\na b c");
        C.same("LINE of the latest", x.fault(0), 2);
        C.same("PLACE of the latest", x.fault(1), 5);
        Checks.find(x, "a");
        x.print();
        x.manner(1);
        C.same("other calls leave it", x.fault(1), 5);
        for (int far : new int[] {2, 3, Integer.MAX_VALUE}) {
            C.same("OUTSIDE above", x.fault(far), OUTSIDE);
        }
        for (int below : BELOW) {
            C.same("OUTSIDE below", x.fault(below), OUTSIDE);
        }
        Checks.read(x, "a b");
        C.same("NONE: LINE", x.fault(0), NONE);
        C.same("NONE: PLACE", x.fault(1), NONE);
        C.same("OUTSIDE without one", x.fault(2), OUTSIDE);
        C.same("OUTSIDE without one", x.fault(-1), OUTSIDE);
    }

    private static void manner() {
        D.says("The MANNER becomes 0 .. 2: what it was. OUTSIDE.");
        GraphTexts x = new GraphTexts();
        int was = 0;
        for (int m : new int[] {1, 2, 0, 2, 1, 1, 0}) {
            C.same("manner(" + m + ")", x.manner(m), was);
            was = m;
        }
        x.manner(2);
        for (int far : new int[] {3, 4, Integer.MAX_VALUE}) {
            C.same("OUTSIDE above", x.manner(far), OUTSIDE);
        }
        for (int below : BELOW) {
            C.same("OUTSIDE below", x.manner(below), OUTSIDE);
        }
        C.same("it is 2 still", Checks.read(x, "a b\na b"), -15);
        Checks.read(x, "a b");
        C.same("a read leaves it", x.manner(0), 2);
        x.manner(1);
        Checks.feed(x, "a b\na b");
        x.manner(0);
        C.same("the MANNER at the read counts, not at the feed", x.read(), 2);
    }

    private static void find() {
        D.says("The NODE with THE TEXT (its bytes as they are) as NAME; NONE. THE TEXT is empty then.");
        GraphTexts x = new GraphTexts();
        C.same("no GRAPH", Checks.find(x, "a"), NONE);
        C.same("empty then", x.about(0), 0);
        Checks.read(x, "% h t\na \"a b\" v\n\"\\\"\\\\\" 12345678 v\n\" \" \"\\\"a\\\"\" v");
        String[] names = {"a", "a b", "\"\\", "12345678", " ", "\"a\""};
        for (int node = 0; node < names.length; node++) {
            C.same("<" + names[node] + ">", Checks.find(x, names[node]), node);
            C.same("empty then", x.about(0), 0);
        }
        for (String none : new String[] {"", "b", "A", "aa", "a ", " a", "a\n", "a b ", "\"a b\"", "\\\"\\\\", "1234567",
            "123456789", "  ", "h", "v", "\u0000", "a\u0000", "a".repeat(600)}) {
            C.same("<" + none + ">", Checks.find(x, none), NONE);
            C.same("empty then", x.about(0), 0);
        }
        Checks.read(x, "wrong");
        C.same("in THE GRAPH that stays", Checks.find(x, "a b"), 1);
        C.same("in the GRAPH of the latest right read", Checks.read(x, "b a"), 1);
        C.same("other numbers", Checks.find(x, "a"), 1);
        C.same("what is there no more", Checks.find(x, "a b"), NONE);
        Checks.read(x, "");
        C.same("an empty GRAPH, an empty TEXT", x.find(), NONE);
    }

    private interface TwoNumbers {
        int answer(int a, int b);
    }

    /** The calls that tell a sign: each of the names, and every number just outside or far outside. */
    private static void signsOf(String what, TwoNumbers call, String... names) {
        for (int which = 0; which < names.length; which++) {
            int own = which;
            for (int i = 0; i < names[which].length(); i++) {
                C.same(what + " " + which + " sign " + i, call.answer(which, i), names[which].charAt(i));
            }
            C.thrown(what + " one behind", INDEX, () -> call.answer(own, names[own].length()));
            C.thrown(what + " far behind", INDEX, () -> call.answer(own, Integer.MAX_VALUE));
            for (int below : BELOW) {
                C.thrown(what + " sign " + below, INDEX, () -> call.answer(own, below));
            }
        }
        for (int i : new int[] {0, -1, 99, Integer.MIN_VALUE, Integer.MAX_VALUE}) {
            C.same(what + " one more", call.answer(names.length, i), UNKNOWN);
            C.same(what + " many more", call.answer(Integer.MAX_VALUE, i), UNKNOWN);
            for (int below : BELOW) {
                C.same(what + " " + below, call.answer(below, i), UNKNOWN);
            }
        }
    }

    private static void node() {
        D.says("Sign i of a NODE's NAME. UNKNOWN. ArrayIndexOutOfBoundsException.");
        GraphTexts x = new GraphTexts();
        signsOf("no GRAPH: NODE", x::node);
        Checks.read(x, "a \"\\\" \\\\\"\n12345678 \"        \"");
        signsOf("NODE", x::node, "a", "\" \\", "12345678", "        ");
        Checks.read(x, "x y");
        signsOf("NODE of another GRAPH", x::node, "x", "y");
        Checks.read(x, "");
        signsOf("NODE of an empty GRAPH", x::node);
    }

    private static void arc() {
        D.says("Of an ARC: from (what = 0), to (1), its LINE in THE TEXT (2), how many of its VALUES are MISSING (3). "
            + "UNKNOWN, OUTSIDE.");
        GraphTexts x = new GraphTexts();
        C.same("no GRAPH", x.arc(0, 0), UNKNOWN);
        Checks.read(x, "% x w\n\n% y d\n#\n% z g\na b - 1 -\n\n  b a 1 1.5 x\nb b - - -\n a c 1 - 1\n");
        int[][] due = {{0, 1, 6, 2}, {1, 0, 8, 0}, {1, 1, 9, 3}, {0, 2, 10, 1}};
        for (int arc = 0; arc < due.length; arc++) {
            for (int what = 0; what <= 3; what++) {
                C.same("arc(" + arc + ", " + what + ")", x.arc(arc, what), due[arc][what]);
            }
            C.same("what = 4", x.arc(arc, 4), OUTSIDE);
            C.same("what far above", x.arc(arc, Integer.MAX_VALUE), OUTSIDE);
            for (int below : BELOW) {
                C.same("what = " + below, x.arc(arc, below), OUTSIDE);
            }
        }
        for (int what : new int[] {0, 3, 4, -1}) {
            C.same("ARC 4", x.arc(4, what), UNKNOWN);
            C.same("ARC far above", x.arc(Integer.MAX_VALUE, what), UNKNOWN);
            for (int below : BELOW) {
                C.same("ARC " + below, x.arc(below, what), UNKNOWN);
            }
        }
        C.same("without COLUMNS nothing is MISSING", Checks.reading("a b").arc(0, 3), 0);
        C.same("the LINE counts those LEFT OUT", Checks.reading("a b\na b\nb a", 1).arc(1, 2), 3);
        C.same("LINE 300", Checks.reading("\n".repeat(299) + "a b").arc(0, 2), 300);
    }

    private static void kind() {
        D.says("THE KIND of a COLUMN: 0 w, 1 d, 2 t. UNKNOWN.");
        GraphTexts x = new GraphTexts();
        C.same("no GRAPH", x.kind(0), UNKNOWN);
        Checks.read(x, "% x w\n% y d\n% z t\na b 1 1 1\n");
        for (int column = 0; column < 3; column++) {
            C.same("COLUMN " + column, x.kind(column), column);
        }
        C.same("COLUMN 3", x.kind(3), UNKNOWN);
        C.same("COLUMN far above", x.kind(Integer.MAX_VALUE), UNKNOWN);
        for (int below : BELOW) {
            C.same("COLUMN " + below, x.kind(below), UNKNOWN);
        }
        Checks.read(x, "% x g\n% y t");
        C.same("g without VALUES", x.kind(0), 0);
        C.same("t without VALUES", x.kind(1), 2);
        C.same("fewer COLUMNS now", x.kind(2), UNKNOWN);
    }

    private static void head() {
        D.says("Sign i of a COLUMN's NAME. UNKNOWN. ArrayIndexOutOfBoundsException.");
        GraphTexts x = new GraphTexts();
        signsOf("no GRAPH: COLUMN", x::head);
        Checks.read(x, "% \"\\\\\" w\n% 12345678 d\n% \" \" g\na b 1 2 3");
        signsOf("COLUMN", x::head, "\\", "12345678", " ");
        Checks.read(x, "% h t");
        signsOf("COLUMN of another GRAPH", x::head, "h");
    }

    private static void value() {
        D.says("The VALUE of an ARC in a COLUMN of KIND w or d, in thousandths. UNKNOWN. NullPointerException: it is MISSING; "
            + "ClassCastException: it is a NAME. (UNKNOWN may be the VALUE, too.)");
        GraphTexts none = new GraphTexts();
        C.same("no GRAPH", none.value(0, 0), UNKNOWN);
        GraphTexts x = Checks.reading("% x w\n% y d\n% z g\na b 999999 -0.101 1\na b -999999 999999 x\na b - - -\n"
            + "a b 0 -999999 1.5\na b 5 -999.999 -5");
        int[][] due = {{999999000, -101}, {-999999000, 999999000}, {}, {0, -999999000}, {5000, -999999}};
        for (int arc = 0; arc < due.length; arc++) {
            for (int column = 0; column < due[arc].length; column++) {
                C.same("value(" + arc + ", " + column + ")", x.value(arc, column), due[arc][column]);
            }
        }
        for (int column = 0; column < 3; column++) {
            int own = column;
            C.thrown("MISSING in COLUMN " + column, NULL, () -> x.value(2, own));
        }
        C.thrown("a number that is a NAME then", CAST, () -> x.value(0, 2));
        C.thrown("a NAME", CAST, () -> x.value(1, 2));
        C.thrown("figures in t", CAST, () -> Checks.reading("% c t\na b 5").value(0, 0));
        for (int far : new int[] {-1, Integer.MIN_VALUE, 5, Integer.MAX_VALUE}) {
            C.same("ARC " + far, x.value(far, 0), UNKNOWN);
            C.same("ARC " + far + " in t", x.value(far, 2), UNKNOWN);
            C.same("COLUMN " + far, x.value(0, far), UNKNOWN);
            C.same("both " + far, x.value(far, far), UNKNOWN);
        }
        C.same("COLUMN 3", x.value(0, 3), UNKNOWN);
        C.same("COLUMN 3 of an ARC with MISSING ones", x.value(2, 3), UNKNOWN);
        C.same("no COLUMN at all", Checks.reading("a b").value(0, 0), UNKNOWN);
        C.same("no ARC at all", Checks.reading("% c w").value(0, 0), UNKNOWN);
        C.same("a guessed w", Checks.reading("% c g\na b 7").value(0, 0), 7000);
        C.same("a guessed d", Checks.reading("% c g\na b 7\na b 0.007").value(1, 0), 7);
    }

    private static void sign() {
        D.says("Sign i of the VALUE of an ARC in a COLUMN of KIND t. UNKNOWN. NullPointerException: it is MISSING; "
            + "ClassCastException: it is a number; ArrayIndexOutOfBoundsException.");
        GraphTexts none = new GraphTexts();
        C.same("no GRAPH", none.sign(0, 0, 0), UNKNOWN);
        GraphTexts x = Checks.reading("% x t\n% y d\n% z g\na b 12345678 1.5 -5\na b \"\\\"\\\\ \" 5 x\na b - - -");
        GraphTexts told = Checks.reading("% c t\na b 12345678\na b \"\\\"\\\\ \"");
        signsOf("VALUE in t", (arc, i) -> told.sign(arc, 0, i), "12345678", "\"\\ ");
        GraphTexts guessed = Checks.reading("% b w\n% c g\na b 1 -5\na b 2 x\na b 3 -999.990");
        signsOf("VALUE in g", (arc, i) -> guessed.sign(arc, 1, i), "-5", "x", "-999.990");
        for (int i : new int[] {0, 1, 8, -1, Integer.MIN_VALUE, Integer.MAX_VALUE}) {
            C.thrown("MISSING before no sign", NULL, () -> x.sign(2, 0, i));
            C.thrown("MISSING in d, not a number", NULL, () -> x.sign(2, 1, i));
            C.thrown("a DECIMAL before no sign", CAST, () -> x.sign(0, 1, i));
            C.thrown("a WHOLE before no sign", CAST, () -> x.sign(1, 1, i));
            for (int far : new int[] {-1, Integer.MIN_VALUE, 3, Integer.MAX_VALUE}) {
                C.same("ARC " + far, x.sign(far, 0, i), UNKNOWN);
                C.same("COLUMN " + far, x.sign(0, far, i), UNKNOWN);
                C.same("COLUMN " + far + " of MISSING ones", x.sign(2, far, i), UNKNOWN);
            }
        }
        C.thrown("a guessed w", CAST, () -> Checks.reading("% c g\na b 7").sign(0, 0, 0));
        C.thrown("a w", CAST, () -> Checks.reading("% c w\na b 7").sign(0, 0, 0));
        C.same("no COLUMN at all", Checks.reading("a b").sign(0, 0, 0), UNKNOWN);
    }

    private static void comment() {
        D.says("Byte i of a COMMENT of THE GRAPH, behind #. UNKNOWN: COMMENT (numbered from 0 on). "
            + "ArrayIndexOutOfBoundsException.");
        GraphTexts x = new GraphTexts();
        signsOf("no GRAPH: COMMENT", x::comment);
        Checks.read(x, "#\n  # x \n##\na b\n#" + "~".repeat(20) + "\n#" + " ".repeat(20));
        signsOf("COMMENT", x::comment, "", " x ", "#", "~".repeat(20), " ".repeat(20));
        Checks.read(x, "a ?\n# other");
        signsOf("COMMENT that stays", x::comment, "", " x ", "#", "~".repeat(20), " ".repeat(20));
        Checks.read(x, "#y");
        signsOf("COMMENT of another GRAPH", x::comment, "y");
        GraphTexts most = Checks.reading("#\n".repeat(299) + "#z");
        C.same("300 COMMENTS less one byte", most.about(5), 300);
        C.same("COMMENT 299", most.comment(299, 0), 'z');
        C.same("COMMENT 300", most.comment(300, 0), UNKNOWN);
    }

    private static void print() {
        D.says("THE GRAPH is WRITTEN: how many bytes. STATE: there is none.");
        GraphTexts x = new GraphTexts();
        C.same("STATE", x.print(), STATE);
        Checks.read(x, "a");
        C.same("STATE after a FAULT", x.print(), STATE);
        Checks.find(x, "a");
        C.same("STATE after find", x.print(), STATE);
        C.same("an empty GRAPH is one", x.read(), 0);
        C.same("no byte", x.print(), 0);
        Checks.read(x, "a b");
        C.same("4 bytes", x.print(), 4);
        C.same("again", x.print(), 4);
        Checks.feed(x, "x y");
        C.same("THE TEXT does not count", x.print(), 4);
        C.same("and is left alone", x.about(0), 3);
    }

    private static void out() {
        D.says("Byte i of what was WRITTEN latest. ArrayIndexOutOfBoundsException.");
        GraphTexts x = Checks.reading("a \"B\"");
        C.thrown("nothing WRITTEN yet", INDEX, () -> x.out(0));
        String due = "a \"B\"\n";
        C.same("bytes", x.print(), due.length());
        for (int i = 0; i < due.length(); i++) {
            C.same("byte " + i, x.out(i), due.charAt(i));
        }
        C.thrown("one behind", INDEX, () -> x.out(due.length()));
        C.thrown("far behind", INDEX, () -> x.out(Integer.MAX_VALUE));
        for (int below : BELOW) {
            C.thrown("byte " + below, INDEX, () -> x.out(below));
        }
        Checks.read(x, "# longer than it");
        C.same("WRITTEN latest, not READ latest", x.out(0), 'a');
        C.thrown("nor longer", INDEX, () -> x.out(due.length()));
        x.print();
        C.same("WRITTEN then", x.out(due.length()), 'e');
        Checks.read(x, "");
        x.print();
        C.thrown("an empty GRAPH WRITTEN", INDEX, () -> x.out(0));
    }

    private static void about() {
        D.says("How many: 0 bytes of THE TEXT; of THE GRAPH (0 without one): 1 NODES, 2 ARCS, 3 COLUMNS, 4 ARCS LEFT OUT, 5 "
            + "COMMENTS; 6 bytes WRITTEN latest. OUTSIDE.");
        GraphTexts x = new GraphTexts();
        aboutIs(x, 0, 0, 0, 0, 0, 0, 0);
        Checks.feed(x, "a");
        aboutIs(x, 1, 0, 0, 0, 0, 0, 0);
        x.read();
        aboutIs(x, 0, 0, 0, 0, 0, 0, 0);
        x.manner(1);
        Checks.read(x, "#1\n#2\n#3\n#4\n#5\n% x w\n% y t\na b 1 -\na b 2 -\na b 3 -\nb c 4 -\na b 5 -");
        aboutIs(x, 0, 3, 2, 2, 3, 5, 0);
        int bytes = x.print();
        aboutIs(x, 0, 3, 2, 2, 3, 5, bytes);
        Checks.read(x, "a b\nb");
        aboutIs(x, 0, 3, 2, 2, 3, 5, bytes);
        Checks.read(x, "a a");
        aboutIs(x, 0, 1, 1, 0, 0, 0, bytes);
        Checks.feed(x, " ".repeat(600));
        aboutIs(x, 600, 1, 1, 0, 0, 0, bytes);
        C.same("about(7)", x.about(7), OUTSIDE);
        C.same("about far above", x.about(Integer.MAX_VALUE), OUTSIDE);
        for (int below : BELOW) {
            C.same("about(" + below + ")", x.about(below), OUTSIDE);
        }
    }

    private static void aboutIs(GraphTexts x, int... due) {
        for (int what = 0; what < due.length; what++) {
            C.same("about(" + what + ")", x.about(what), due[what]);
        }
    }
}
