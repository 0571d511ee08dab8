import java.util.ArrayList;
import java.util.HashMap;
import java.util.HashSet;
import java.util.List;
import java.util.Map;
import java.util.Random;
import java.util.Set;
import java.util.regex.Pattern;

/**
 * Many texts, right and nearly right, from a fixed seed: what is accepted is what the grammar, told once more by
 * patterns, accepts; what is WRITTEN is read to the same; and no call throws but by its own throw.
 */
public final class RandomTextsTest {
    private static final Checks C = new Checks("RandomTextsTest");
    private static final String SIGN = "(?:[ !#-\\[\\]-~]|\\\\[\"\\\\])";
    private static final String NAME = "(?:[a-z0-9_]{1,8}|\"" + SIGN + "{1,8}\")";
    private static final String WHOLE = "(?:0|-?[1-9][0-9]{0,5})";
    private static final String DECIMAL = "(?:-?(?:0|[1-9][0-9]{0,2})\\.[0-9]{1,3})";
    private static final Pattern COMMENT = Pattern.compile(" *#[ -~]{0,20}");
    private static final Pattern COUNT = Pattern.compile(" *! +([0-9]{1,2}) +([0-9]{1,2}) *");
    private static final Pattern HEAD = Pattern.compile(" *% +(" + NAME + ") +([wdtg]) *");

    public static void main(String[] args) {
        Random random = new Random(20261116);
        GraphTexts used = new GraphTexts();
        String usedGraph = "";
        int accepted = 0;
        for (int round = 0; round < 60000; round++) {
            String text = text(random);
            for (int k = random.nextInt(3); k > 0; k--) {
                text = spoiled(text, random);
            }
            if (text.length() > 600) {
                continue;
            }
            int manner = random.nextInt(3);
            accepted += tryText(text, manner, random);
            if (round % 5 == 0) {
                used = new GraphTexts();
                usedGraph = "";
            }
            usedGraph = tryAgain(used, usedGraph, text, manner);
        }
        C.same("enough texts are accepted", accepted > 10000 ? 1 : 0, 1);
        C.end();
    }

    private static int tryText(String text, int manner, Random random) {
        GraphTexts x = new GraphTexts();
        x.manner(manner);
        int answer = Checks.read(x, text);
        String what = "manner " + manner + " <" + text + ">";
        C.same("accepted " + what, answer >= 0 ? 1 : 0, accepts(text, manner) ? 1 : 0);
        if (answer < 0) {
            faultLiesInside(x, text, answer, what);
            return 0;
        }
        String graph = Checks.graph(x);
        String written = Checks.written(x);
        if (written.length() <= 600) {
            GraphTexts y = new GraphTexts();
            y.manner(manner);
            C.same("read again " + what, Checks.read(y, written), answer);
            C.same("the same GRAPH " + what, Checks.graph(y), graph);
            C.same("the same WRITTEN " + what, Checks.written(y), written);
        }
        randomCalls(x, random);
        return 1;
    }

    /** An object that has read before reads as a new one does, and keeps its GRAPH when there is a FAULT. */
    private static String tryAgain(GraphTexts used, String before, String text, int manner) {
        GraphTexts fresh = new GraphTexts();
        fresh.manner(manner);
        used.manner(manner);
        int due = Checks.read(fresh, text);
        String what = "used again, manner " + manner + " <" + text + ">";
        C.same(what, Checks.read(used, text), due);
        C.same("LINE " + what, used.fault(0), fresh.fault(0));
        C.same("PLACE " + what, used.fault(1), fresh.fault(1));
        String graph = due < 0 ? before : Checks.graph(fresh);
        C.same("GRAPH " + what, Checks.graph(used), graph);
        if (due >= 0) {
            C.same("LEFT OUT " + what, used.about(4), fresh.about(4));
            C.same("WRITTEN " + what, Checks.written(used), Checks.written(fresh));
            for (int arc = 0; arc < due; arc++) {
                C.same("LINE of ARC " + arc + " " + what, used.arc(arc, 2), fresh.arc(arc, 2));
            }
        }
        return graph;
    }

    private static void faultLiesInside(GraphTexts x, String text, int answer, String what) {
        C.same("a FAULT 1 .. 7 " + what, answer <= -11 && answer >= -17 ? 1 : 0, 1);
        String[] lines = text.split("\n", -1);
        int line = x.fault(0);
        boolean inside = line >= 1 && line <= lines.length
            && x.fault(1) >= 1 && x.fault(1) <= lines[line - 1].length() + 1;
        C.same("LINE and PLACE inside " + what, inside ? 1 : 0, 1);
        C.same("no GRAPH " + what, x.print(), GraphTexts.STATE);
    }

    private static void randomCalls(GraphTexts x, Random random) {
        for (int k = 0; k < 30; k++) {
            int a = any(random);
            int b = any(random);
            int c = any(random);
            try {
                switch (random.nextInt(9)) {
                    case 0 -> x.node(a, b);
                    case 1 -> x.head(a, b);
                    case 2 -> x.value(a, b);
                    case 3 -> x.sign(a, b, c);
                    case 4 -> x.comment(a, b);
                    case 5 -> x.out(a);
                    case 6 -> x.arc(a, b);
                    case 7 -> x.kind(a);
                    default -> x.about(a);
                }
            } catch (ArrayIndexOutOfBoundsException | NullPointerException | ClassCastException e) {
                boolean own = e.getMessage().startsWith("no such ") || e.getMessage().startsWith("the VALUE is ");
                C.same("thrown by a throw: " + e.getMessage(), own ? 1 : 0, 1);
            }
        }
    }

    private static int any(Random random) {
        return random.nextInt(20) == 0 ? random.nextInt() : random.nextInt(12) - 2;
    }

    private static boolean accepts(String text, int manner) {
        List<String> heads = new ArrayList<>();
        List<String> kinds = new ArrayList<>();
        Set<String> nodes = new HashSet<>();
        Map<String, Integer> arcs = new HashMap<>();
        int arcCount = 0;
        boolean arcSeen = false;
        int[] told = null;
        for (String line : text.split("\n", -1)) {
            var count = COUNT.matcher(line);
            var head = HEAD.matcher(line);
            if (line.isBlank() && line.matches(" *") || COMMENT.matcher(line).matches()) {
                continue;
            }
            if (count.matches()) {
                if (told != null) {
                    return false;
                }
                told = new int[] {Integer.parseInt(count.group(1)), Integer.parseInt(count.group(2))};
            } else if (head.matches()) {
                String name = bare(head.group(1));
                if (arcSeen || heads.size() == 3 || heads.contains(name)) {
                    return false;
                }
                heads.add(name);
                kinds.add(head.group(2));
            } else {
                var arc = arcPattern(kinds).matcher(line);
                if (!arc.matches()) {
                    return false;
                }
                arcSeen = true;
                String from = bare(arc.group(1));
                String to = bare(arc.group(2));
                nodes.add(from);
                nodes.add(to);
                boolean doubled = arcs.put(from + "\n" + to, 1) != null;
                if (doubled && manner == 2) {
                    return false;
                }
                arcCount += doubled && manner == 1 ? 0 : 1;
                if (nodes.size() > 30 || arcCount > 40) {
                    return false;
                }
            }
        }
        return told == null || told[0] == nodes.size() && told[1] == arcCount;
    }

    private static Pattern arcPattern(List<String> kinds) {
        StringBuilder all = new StringBuilder(" *(" + NAME + ") +(" + NAME + ")");
        for (String kind : kinds) {
            String value = switch (kind) {
                case "w" -> WHOLE;
                case "d" -> WHOLE + "|" + DECIMAL;
                case "t" -> NAME;
                default -> WHOLE + "|" + DECIMAL + "|" + NAME;
            };
            all.append(" +(?:-|").append(value).append(")");
        }
        return Pattern.compile(all.append(" *").toString());
    }

    private static String bare(String word) {
        return word.startsWith("\"")
            ? word.substring(1, word.length() - 1).replaceAll("\\\\(.)", "$1") : word;
    }

    private static String text(Random random) {
        StringBuilder all = new StringBuilder();
        StringBuilder kinds = new StringBuilder();
        int names = 1 + random.nextInt(random.nextInt(4) == 0 ? 40 : 5);
        for (int k = random.nextInt(4); k > 0; k--) {
            char kind = "wdtgg".charAt(random.nextInt(5));
            kinds.append(kind);
            all.append("%").append(blanks(random)).append(name(random, 9)).append(blanks(random)).append(kind).append('\n');
        }
        int arcs = random.nextInt(8) == 0 ? 30 + random.nextInt(15) : random.nextInt(8);
        for (int k = 0; k < arcs; k++) {
            if (random.nextInt(8) == 0) {
                all.append("#").append("~ \"#".repeat(random.nextInt(6))).append('\n');
            }
            all.append(name(random, names)).append(blanks(random)).append(name(random, names));
            for (int column = 0; column < kinds.length(); column++) {
                all.append(blanks(random)).append(value(random, kinds.charAt(column)));
            }
            all.append(random.nextInt(6) == 0 ? " \n\n" : "\n");
        }
        if (random.nextInt(4) == 0) {
            GraphTexts counted = Checks.reading(all.length() <= 600 ? all.toString() : "");
            all.insert(0, "! " + counted.about(1) + " 0" + counted.about(2) % 10 + "\n");
        }
        if (random.nextInt(3) == 0 && all.length() > 0) {
            all.setLength(all.length() - 1);
        }
        return all.toString();
    }

    private static String blanks(Random random) {
        return random.nextInt(8) == 0 ? "   " : " ";
    }

    private static String name(Random random, int most) {
        int which = random.nextInt(most);
        return switch (which % 8) {
            case 0 -> "a" + which / 8;
            case 1 -> "\"a" + (which / 8 + 1) + "\"";
            case 2 -> "\"" + which / 8 + " b\"";
            case 3 -> "\"\\\\\\\"" + which / 8 + "\"";
            case 4 -> "" + which;
            case 5 -> "n_" + which + "_long".substring(0, random.nextInt(2) * 4);
            case 6 -> "\"-" + which + "\"";
            default -> "z";
        };
    }

    private static String value(Random random, char kind) {
        if (random.nextInt(6) == 0) {
            return "-";
        }
        String whole = (random.nextInt(3) == 0 ? "-" : "") + (1 + random.nextInt(random.nextBoolean() ? 9 : 999999));
        String decimal = (random.nextInt(3) == 0 ? "-" : "") + random.nextInt(random.nextBoolean() ? 2 : 1000) + "."
            + ("" + (1000 + random.nextInt(1000))).substring(1, 2 + random.nextInt(3));
        int choice = random.nextInt(3);
        return switch (kind) {
            case 'w' -> whole;
            case 'd' -> choice == 0 ? whole : decimal;
            case 't' -> name(random, 20);
            default -> choice == 0 ? whole : choice == 1 ? decimal : random.nextInt(3) == 0 ? name(random, 20) : "0";
        };
    }

    private static String spoiled(String text, Random random) {
        String signs = "ab019_-.\"\\ #!%wdtg\n\n  ?\t\u007f\u00e9";
        int at = random.nextInt(text.length() + 1);
        char sign = signs.charAt(random.nextInt(signs.length()));
        String behind = at < text.length() && random.nextBoolean() ? text.substring(at + 1) : text.substring(at);
        return text.substring(0, at) + (random.nextInt(4) == 0 ? "" : sign) + behind;
    }
}
