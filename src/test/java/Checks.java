/** What all tests of the project share: counting answers, and texts as runs of feed. */
final class Checks {
    private final String suite;
    private int right = 0;
    private int wrong = 0;

    Checks(String suite) {
        this.suite = suite;
    }

    void same(String what, long got, long due) {
        if (got == due) {
            right++;
        } else {
            wrong++;
            System.out.println(suite + ": " + what + " answered " + got + ", due is " + due);
        }
    }

    void same(String what, String got, String due) {
        if (got.equals(due)) {
            right++;
        } else {
            wrong++;
            System.out.println(suite + ": " + what + " answered <" + got + ">, due is <" + due + ">");
        }
    }

    interface Call {
        int answer();
    }

    /** The call throws this very class, and by a throw statement: the machine's own messages tell lengths. */
    void thrown(String what, Class<?> due, Call call) {
        String got;
        try {
            got = "the answer " + call.answer();
        } catch (RuntimeException e) {
            boolean own = e.getMessage() != null && e.getMessage().startsWith(ownWords(due));
            got = e.getClass().getName() + (own ? "" : " of the machine: " + e.getMessage());
        }
        same(what, got, due.getName());
    }

    private static String ownWords(Class<?> due) {
        return due == ArrayIndexOutOfBoundsException.class ? "no such " : "the VALUE is ";
    }

    /** A new object finds this FAULT in the text, has no GRAPH then, and no bytes left. */
    void wrong(String text, int manner, int fault, int line, int place) {
        GraphTexts x = new GraphTexts();
        x.manner(manner);
        String what = "read of <" + text + ">";
        same(what, read(x, text), -10 - fault);
        same(what + " LINE", x.fault(0), line);
        same(what + " PLACE", x.fault(1), place);
        same(what + " bytes left", x.about(0), 0);
        same(what + " print", x.print(), GraphTexts.STATE);
    }

    void wrong(String text, int fault, int line, int place) {
        wrong(text, 0, fault, line, place);
    }

    /** A new object reads the text without a FAULT. */
    void right(String text, int manner, int arcs) {
        GraphTexts x = new GraphTexts();
        x.manner(manner);
        String what = "read of <" + text + ">";
        same(what, read(x, text), arcs);
        same(what + " LINE", x.fault(0), GraphTexts.NONE);
        same(what + " PLACE", x.fault(1), GraphTexts.NONE);
        same(what + " bytes left", x.about(0), 0);
    }

    void right(String text, int arcs) {
        right(text, 0, arcs);
    }

    /** The object reads the text as the grammar's second telling tells. */
    Grammar asTold(GraphTexts x, String text, int manner) {
        Grammar due = new Grammar(text, manner);
        x.manner(manner);
        String what = "manner " + manner + " <" + text + ">";
        boolean right = due.fault == 0;
        same("read " + what, read(x, text), right ? due.arcs : -10 - due.fault);
        same("LINE " + what, x.fault(0), right ? GraphTexts.NONE : due.line);
        same("PLACE " + what, x.fault(1), right ? GraphTexts.NONE : due.place);
        return due;
    }

    void end() {
        System.out.println(suite + ": " + right + " answers as due, " + wrong + " not");
        if (wrong > 0) {
            System.exit(1);
        }
    }

    static int feed(GraphTexts x, String text) {
        int length = x.about(0);
        for (int at = 0; at < text.length(); at += 8) {
            int n = Math.min(8, text.length() - at);
            long w = 0;
            for (int i = 0; i < n; i++) {
                w = w << 8 | text.charAt(at + i);
            }
            length = x.feed(n, w);
        }
        return length;
    }

    static int read(GraphTexts x, String text) {
        feed(x, text);
        return x.read();
    }

    static int find(GraphTexts x, String name) {
        feed(x, name);
        return x.find();
    }

    static GraphTexts reading(String text) {
        return reading(text, 0);
    }

    static GraphTexts reading(String text, int manner) {
        GraphTexts x = new GraphTexts();
        x.manner(manner);
        read(x, text);
        return x;
    }

    static String written(GraphTexts x) {
        int length = x.print();
        if (length < 0) {
            return "refused " + length;
        }
        StringBuilder all = new StringBuilder();
        for (int i = 0; i < length; i++) {
            all.append((char) x.out(i));
        }
        return all.toString();
    }

    static String nodeName(GraphTexts x, int node) {
        return signs(i -> x.node(node, i));
    }

    static String headName(GraphTexts x, int column) {
        return signs(i -> x.head(column, i));
    }

    static String valueName(GraphTexts x, int arc, int column) {
        return signs(i -> x.sign(arc, column, i));
    }

    static String commentBytes(GraphTexts x, int comment) {
        return signs(i -> x.comment(comment, i));
    }

    private interface SignAt {
        int answer(int i);
    }

    private static String signs(SignAt from) {
        StringBuilder all = new StringBuilder();
        for (int i = 0; i < 100; i++) {
            int next;
            try {
                next = from.answer(i);
            } catch (ArrayIndexOutOfBoundsException e) {
                return all.toString();
            }
            if (next < 0) {
                return "refused " + next;
            }
            all.append((char) next);
        }
        return "without an end";
    }

    /** All that THE GRAPH answers, but the LINES of its ARCS, which move when it is WRITTEN. */
    static String graph(GraphTexts x) {
        StringBuilder all = new StringBuilder();
        for (int node = 0; node < x.about(1); node++) {
            all.append("node ").append(nodeName(x, node)).append('\n');
        }
        for (int column = 0; column < x.about(3); column++) {
            all.append("column ").append(headName(x, column)).append(' ').append(x.kind(column)).append('\n');
        }
        for (int arc = 0; arc < x.about(2); arc++) {
            all.append("arc ").append(x.arc(arc, 0)).append(' ').append(x.arc(arc, 1)).append(' ').append(x.arc(arc, 3));
            for (int column = 0; column < x.about(3); column++) {
                all.append(' ').append(anyValue(x, arc, column));
            }
            all.append('\n');
        }
        for (int comment = 0; comment < x.about(5); comment++) {
            all.append("comment ").append(commentBytes(x, comment)).append('\n');
        }
        return all.toString();
    }

    static String anyValue(GraphTexts x, int arc, int column) {
        try {
            return "" + x.value(arc, column);
        } catch (NullPointerException e) {
            return "missing";
        } catch (ClassCastException e) {
            return "name <" + valueName(x, arc, column) + ">";
        }
    }
}
