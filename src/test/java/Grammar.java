import java.util.ArrayList;
import java.util.HashMap;
import java.util.HashSet;
import java.util.List;
import java.util.Map;
import java.util.Set;
import java.util.regex.Matcher;
import java.util.regex.Pattern;

/**
 * The grammar and the FAULTS told once more, by patterns and not byte by byte: a FAULT is found at the first byte with
 * which the LINE can be no beginning of a right LINE; it is LONG if it could be one were there no lengths.
 */
final class Grammar {
    private static final int NO_FAULT = 0, SIGN = 1, LONG = 2, KIND = 3, ORDER = 4, DOUBLED = 5, FULL = 6, LIES = 7;
    private static final String QUOTED_SIGN = "(?:[ !#-\\[\\]-~]|\\\\[\"\\\\])";
    private static final String WHOLE_NAME = "((?:[a-z0-9_]{1,8}+(?![a-z0-9_])|\"" + QUOTED_SIGN + "{1,8}\"))";
    private static final Pattern HEAD_NAME = Pattern.compile(" *% +" + WHOLE_NAME);
    private static final Pattern FIRST_NAME = Pattern.compile(" *" + WHOLE_NAME);
    private static final Pattern BOTH_NAMES = Pattern.compile(" *" + WHOLE_NAME + " +" + WHOLE_NAME);
    private static final Map<String, Pattern> PATTERNS = new HashMap<>();

    private final int manner;
    private final List<String> heads = new ArrayList<>();
    private final List<String> nodes = new ArrayList<>();
    private final Set<String> ends = new HashSet<>();
    private String kinds = "";
    private boolean arcSeen = false;
    private int countLine = 0;
    private int[] told;
    private int[] toldPlaces;
    int arcs = 0;
    int fault = NO_FAULT;
    int line = 0;
    int place = 0;

    Grammar(String text, int manner) {
        this.manner = manner;
        String[] lines = text.split("\n", -1);
        for (int k = 0; k < lines.length && fault == NO_FAULT; k++) {
            line = k + 1;
            judgeLine(lines[k]);
        }
        if (fault == NO_FAULT && countLine > 0) {
            judgeCount();
        }
    }

    private void found(int code, int index) {
        if (fault == NO_FAULT) {
            fault = code;
            place = index + 1;
        }
    }

    private void judgeCount() {
        line = countLine;
        if (told[0] != nodes.size()) {
            found(LIES, toldPlaces[0]);
        } else if (told[1] != arcs) {
            found(LIES, toldPlaces[1]);
        }
    }

    private void judgeLine(String bytes) {
        int first = 0;
        while (first < bytes.length() && bytes.charAt(first) == ' ') {
            first++;
        }
        char sign = first < bytes.length() ? bytes.charAt(first) : ' ';
        if (sign == '!' && countLine > 0 || sign == '%' && (arcSeen || heads.size() == 3)) {
            found(ORDER, first);
        }
        if (sign == '%') {
            judgeHeadName(bytes);
        } else if (sign != ' ' && sign != '!' && sign != '#') {
            judgeEnds(bytes);
        }
        judgeSigns(bytes);
        if (fault == NO_FAULT) {
            take(bytes, sign, first);
        }
    }

    private void judgeHeadName(String bytes) {
        Matcher name = HEAD_NAME.matcher(bytes);
        if (name.lookingAt() && heads.contains(bare(name.group(1)))) {
            found(ORDER, name.start(1));
        }
    }

    private void judgeEnds(String bytes) {
        Matcher from = FIRST_NAME.matcher(bytes);
        Matcher both = BOTH_NAMES.matcher(bytes);
        if (from.lookingAt() && isNewNode(bare(from.group(1))) && nodes.size() == 30) {
            found(FULL, from.start(1));
        }
        if (!both.lookingAt()) {
            return;
        }
        String first = bare(both.group(1));
        String second = bare(both.group(2));
        int before = nodes.size() + (isNewNode(first) ? 1 : 0);
        if (isNewNode(second) && !second.equals(first) && before >= 30) {
            found(FULL, both.start(2));
        }
        if (manner == 2 && ends.contains(first + "\n" + second)) {
            found(DOUBLED, both.start(2));
        }
    }

    private boolean isNewNode(String name) {
        return !nodes.contains(name);
    }

    private void judgeSigns(String bytes) {
        Pattern right = line(kinds, true);
        if (right.matcher(bytes).matches()) {
            return;
        }
        int at = 0;
        while (at < bytes.length() && begins(right, bytes.substring(0, at + 1))) {
            at++;
        }
        String ahead = bytes.substring(0, at);
        int sign = at < bytes.length() ? bytes.charAt(at) : -1;
        boolean isLong = sign >= 0 && begins(line(kinds, false), bytes.substring(0, at + 1));
        for (int column = 0; column < kinds.length(); column++) {
            judgeValue(ahead, sign, column, isLong);
        }
        found(isLong ? LONG : SIGN, at);
    }

    /** The FAULTS of a VALUE that are told at another byte than the one that they are found at, and KIND. */
    private void judgeValue(String ahead, int sign, int column, boolean isLong) {
        char kind = kinds.charAt(column);
        String before = names(true) + values(kinds.substring(0, column), true) + " +";
        boolean figure = sign >= '0' && sign <= '9';
        Matcher figures = pattern(before + "-?([0-9]+)").matcher(ahead);
        if ((kind == 'w' || kind == 'd') && pattern(before).matcher(ahead).matches()
            && (sign == '"' || sign == '_' || sign >= 'a' && sign <= 'z')) {
            found(KIND, ahead.length());
        }
        if ((kind == 'd' || kind == 'g') && pattern(before + "-0").matcher(ahead).matches() && sign != '.' && !figure) {
            found(SIGN, ahead.length() - 1);
        }
        if (kind != 'w' && kind != 't' && sign == '.' && figures.matches()) {
            if (isLong) {
                found(LONG, figures.start(1) + 3);
            } else if (figures.group(1).startsWith("0") && figures.group(1).length() > 1) {
                found(SIGN, figures.start(1) + 1);
            }
        }
    }

    /** A right LINE. */
    private void take(String bytes, char sign, int first) {
        if (sign == '!') {
            Matcher count = pattern(" *! +([0-9]+) +([0-9]+) *").matcher(bytes);
            count.matches();
            countLine = line;
            told = new int[] {Integer.parseInt(count.group(1)), Integer.parseInt(count.group(2))};
            toldPlaces = new int[] {count.start(1), count.start(2)};
        } else if (sign == '%') {
            Matcher head = pattern(" *% +" + WHOLE_NAME + " +(.) *").matcher(bytes);
            head.matches();
            heads.add(bare(head.group(1)));
            kinds = kinds + head.group(2);
        } else if (sign != ' ' && sign != '#') {
            Matcher both = BOTH_NAMES.matcher(bytes);
            both.lookingAt();
            takeArc(bare(both.group(1)), bare(both.group(2)), first);
        }
    }

    private void takeArc(String from, String to, int first) {
        arcSeen = true;
        if (isNewNode(from)) {
            nodes.add(from);
        }
        if (isNewNode(to)) {
            nodes.add(to);
        }
        boolean doubled = !ends.add(from + "\n" + to);
        if (doubled && manner == 1) {
            return;
        }
        if (arcs == 40) {
            found(FULL, first);
        }
        arcs++;
    }

    private static boolean begins(Pattern right, String bytes) {
        Matcher m = right.matcher(bytes);
        return m.matches() || m.hitEnd();
    }

    private static Pattern pattern(String words) {
        return PATTERNS.computeIfAbsent(words, Pattern::compile);
    }

    private static String name(boolean bounded) {
        String many = bounded ? "{1,8}" : "+";
        return "(?:[a-z0-9_]" + many + "|\"" + QUOTED_SIGN + many + "\")";
    }

    private static String names(boolean bounded) {
        return " *" + name(bounded) + " +" + name(bounded);
    }

    private static String values(String kinds, boolean bounded) {
        String whole = bounded ? "0|-?[1-9][0-9]{0,5}" : "0|-?[1-9][0-9]*";
        String decimal = bounded ? "-?(?:0|[1-9][0-9]{0,2})\\.[0-9]{1,3}" : "-?(?:0|[1-9][0-9]*)\\.[0-9]+";
        StringBuilder all = new StringBuilder();
        for (char kind : kinds.toCharArray()) {
            String value = switch (kind) {
                case 'w' -> whole;
                case 'd' -> whole + "|" + decimal;
                case 't' -> name(bounded);
                default -> whole + "|" + decimal + "|" + name(bounded);
            };
            all.append(" +(?:-|").append(value).append(")");
        }
        return all.toString();
    }

    private static Pattern line(String kinds, boolean bounded) {
        String number = bounded ? "[0-9]{1,2}" : "[0-9]+";
        String comment = " *#[ -~]" + (bounded ? "{0,20}" : "*");
        String count = " *! +" + number + " +" + number + " *";
        String head = " *% +" + name(bounded) + " +[wdtg] *";
        String arc = names(bounded) + values(kinds, bounded) + " *";
        return pattern(" *|" + comment + "|" + count + "|" + head + "|" + arc);
    }

    private static String bare(String word) {
        return word.startsWith("\"") ? word.substring(1, word.length() - 1).replaceAll("\\\\(.)", "$1") : word;
    }
}
