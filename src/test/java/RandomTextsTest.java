import java.util.Random;

/**
 * Many texts, right and nearly right, from a fixed seed: each is read as the grammar, told once more by patterns, tells
 * (how many ARCS, or the FAULT with LINE and PLACE); what is WRITTEN is read to the same; and no call throws but by its
 * own throw.
 */
public final class RandomTextsTest {
    private static final Checks C = new Checks("RandomTextsTest");
    // How many texts had no FAULT (0), had each of the FAULTS.
    private static final int[] READ_WITH = new int[8];

    public static void main(String[] args) {
        Random random = new Random(20261116);
        GraphTexts used = new GraphTexts();
        String usedGraph = "";
        for (int round = 0; round < 60000; round++) {
            String text = text(random);
            for (int k = random.nextInt(3); k > 0; k--) {
                text = spoiled(text, random);
            }
            if (text.length() > 600) {
                continue;
            }
            int manner = random.nextInt(3);
            tryText(text, manner, random);
            if (round % 5 == 0) {
                used = new GraphTexts();
                usedGraph = "";
            }
            usedGraph = tryAgain(used, usedGraph, text, manner);
        }
        C.same("enough texts are right", READ_WITH[0] > 10000 ? 1 : 0, 1);
        for (int fault = 1; fault <= 7; fault++) {
            C.same("enough texts have FAULT " + fault, READ_WITH[fault] >= 100 ? 1 : 0, 1);
        }
        C.end();
    }

    private static void tryText(String text, int manner, Random random) {
        GraphTexts x = new GraphTexts();
        Grammar due = C.asTold(x, text, manner);
        String what = "manner " + manner + " <" + text + ">";
        READ_WITH[due.fault]++;
        if (due.fault > 0) {
            C.same("no GRAPH " + what, x.print(), GraphTexts.STATE);
            return;
        }
        String graph = Checks.graph(x);
        String written = Checks.written(x);
        if (written.length() <= 600) {
            GraphTexts y = new GraphTexts();
            y.manner(manner);
            C.same("read again " + what, Checks.read(y, written), due.arcs);
            C.same("the same GRAPH " + what, Checks.graph(y), graph);
            C.same("the same WRITTEN " + what, Checks.written(y), written);
        }
        randomCalls(x, random);
    }

    /** An object that has read before reads as a new one does, and keeps its GRAPH when there is a FAULT. */
    private static String tryAgain(GraphTexts used, String before, String text, int manner) {
        GraphTexts fresh = new GraphTexts();
        fresh.manner(manner);
        used.manner(manner);
        int due = Checks.read(fresh, text);
        String what = "used again, manner " + manner + " <" + text + ">";
        C.same(what, Checks.read(used, text), due);
        C.same("LINE " + what, used.fault(0), fresh.fault(0));
        C.same("PLACE " + what, used.fault(1), fresh.fault(1));
        String graph = due < 0 ? before : Checks.graph(fresh);
        C.same("GRAPH " + what, Checks.graph(used), graph);
        if (due >= 0) {
            C.same("LEFT OUT " + what, used.about(4), fresh.about(4));
            C.same("WRITTEN " + what, Checks.written(used), Checks.written(fresh));
            for (int arc = 0; arc < due; arc++) {
                C.same("LINE of ARC " + arc + " " + what, used.arc(arc, 2), fresh.arc(arc, 2));
            }
        }
        return graph;
    }

    private static void randomCalls(GraphTexts x, Random random) {
        for (int k = 0; k < 30; k++) {
            int a = any(random);
            int b = any(random);
            int c = any(random);
            try {
                switch (random.nextInt(9)) {
                    case 0 -> x.node(a, b);
                    case 1 -> x.head(a, b);
                    case 2 -> x.value(a, b);
                    case 3 -> x.sign(a, b, c);
                    case 4 -> x.comment(a, b);
                    case 5 -> x.out(a);
                    case 6 -> x.arc(a, b);
                    case 7 -> x.kind(a);
                    default -> x.about(a);
                }
            } catch (ArrayIndexOutOfBoundsException | NullPointerException | ClassCastException e) {
                boolean own = e.getMessage().startsWith("no such ") || e.getMessage().startsWith("the VALUE is ");
                C.same("thrown by a throw: " + e.getMessage(), own ? 1 : 0, 1);
            }
        }
    }

    private static int any(Random random) {
        return random.nextInt(20) == 0 ? random.nextInt() : random.nextInt(12) - 2;
    }

    private static String text(Random random) {
        StringBuilder all = new StringBuilder();
        StringBuilder kinds = new StringBuilder();
        int names = 1 + random.nextInt(random.nextInt(4) == 0 ? 40 : 5);
        for (int k = random.nextInt(4); k > 0; k--) {
            char kind = "wdtgg".charAt(random.nextInt(5));
            kinds.append(kind);
            all.append("%").append(blanks(random)).append(name(random, 9)).append(blanks(random)).append(kind).append('\n');
        }
        int arcs = random.nextInt(8) == 0 ? 30 + random.nextInt(15) : random.nextInt(8);
        for (int k = 0; k < arcs; k++) {
            if (random.nextInt(8) == 0) {
                all.append("#").append("~ \"#".repeat(random.nextInt(6))).append('\n');
            }
            all.append(name(random, names)).append(blanks(random)).append(name(random, names));
            for (int column = 0; column < kinds.length(); column++) {
                all.append(blanks(random)).append(value(random, kinds.charAt(column)));
            }
            all.append(random.nextInt(6) == 0 ? " \n\n" : "\n");
        }
        if (random.nextInt(4) == 0) {
            GraphTexts counted = Checks.reading(all.length() <= 600 ? all.toString() : "");
            all.insert(0, "! " + counted.about(1) + " 0" + counted.about(2) % 10 + "\n");
        }
        if (random.nextInt(3) == 0 && all.length() > 0) {
            all.setLength(all.length() - 1);
        }
        return all.toString();
    }

    private static String blanks(Random random) {
        return random.nextInt(8) == 0 ? "   " : " ";
    }

    private static String name(Random random, int most) {
        int which = random.nextInt(most);
        return switch (which % 8) {
            case 0 -> "a" + which / 8;
            case 1 -> "\"a" + (which / 8 + 1) + "\"";
            case 2 -> "\"" + which / 8 + " b\"";
            case 3 -> "\"\\\\\\\"" + which / 8 + "\"";
            case 4 -> "" + which;
            case 5 -> "n_" + which + "_long".substring(0, random.nextInt(2) * 4);
            case 6 -> "\"-" + which + "\"";
            default -> "z";
        };
    }

    private static String value(Random random, char kind) {
        if (random.nextInt(6) == 0) {
            return "-";
        }
        String whole = (random.nextInt(3) == 0 ? "-" : "") + (1 + random.nextInt(random.nextBoolean() ? 9 : 999999));
        String decimal = (random.nextInt(3) == 0 ? "-" : "") + random.nextInt(random.nextBoolean() ? 2 : 1000) + "."
            + ("" + (1000 + random.nextInt(1000))).substring(1, 2 + random.nextInt(3));
        int choice = random.nextInt(3);
        return switch (kind) {
            case 'w' -> whole;
            case 'd' -> choice == 0 ? whole : decimal;
            case 't' -> name(random, 20);
            default -> choice == 0 ? whole : choice == 1 ? decimal : random.nextInt(3) == 0 ? name(random, 20) : "0";
        };
    }

    private static String spoiled(String text, Random random) {
        String signs = "ab019_-.\"\\ #!%wdtg\n\n  ?\t\u007f\u00e9";
        int at = random.nextInt(text.length() + 1);
        char sign = signs.charAt(random.nextInt(signs.length()));
        String behind = at < text.length() && random.nextBoolean() ? text.substring(at + 1) : text.substring(at);
        return text.substring(0, at) + (random.nextInt(4) == 0 ? "" : sign) + behind;
    }
}
