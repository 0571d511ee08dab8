import java.nio.file.Files;
import java.nio.file.Path;
import java.util.ArrayDeque;
import java.util.Deque;
import java.util.List;
import java.util.Set;
import java.util.regex.Matcher;
import java.util.regex.Pattern;

/** What of ../shared/LANGUAGE.md can be seen from the program's text; it is started in the project's folder. */
public final class LanguageTest {
    private static final Checks C = new Checks("LanguageTest");
    private static final String[] BANNED = {
        "import", "package", "try", "catch", "finally", "synchronized", "assert", "native", "volatile", "transient",
        "instanceof", "protected", "var", "static\\s*\\{", "->", "::", "System\\s*\\.\\s*(?!arraycopy)", "Exact",
        "getMessage", "Object", "double", "float",
    };
    private static final Set<String> THROWN =
        Set.of("ArrayIndexOutOfBoundsException", "NullPointerException", "ClassCastException");
    private static final Pattern MEMBER = Pattern.compile("^( {4}| {8})\\w[^=;]*\\((.*)$");
    private static final Pattern FIELD = Pattern.compile("^ +private (final )?\\w+(\\[\\])? \\w+;$");
    private static final Pattern STATIC = Pattern.compile("^ +\\w+ static final (\\w+) .*;$");

    public static void main(String[] args) throws Exception {
        String source = Files.readString(Path.of("src/main/java/GraphTexts.java"));
        String code = source.replaceAll("'(\\\\.|[^\\\\'])'", "0").replaceAll("\"(\\\\.|[^\\\\\"])*\"", "TEXT")
            .replaceAll("/\\*(?s:.*?)\\*/", "").replaceAll("//.*", "");
        for (String word : BANNED) {
            String bounded = Character.isLetter(word.charAt(0)) && !word.equals("Exact") ? "\\b" + word + "(?!\\w)" : word;
            Matcher found = Pattern.compile(bounded).matcher(code);
            C.same("uses of " + word, found.find() ? 1 : 0, 0);
        }
        thrown(code);
        List<String> lines = code.lines().toList();
        made(lines);
        classes(lines);
        methods(lines);
        C.end();
    }

    private static void thrown(String code) {
        Matcher all = Pattern.compile("\\bthrow\\b(.*)").matcher(code);
        while (all.find()) {
            Matcher form = Pattern.compile(" new (\\w+)\\(TEXT\\);").matcher(all.group(1));
            C.same("throw" + all.group(1), form.matches() && THROWN.contains(form.group(1)) ? 1 : 0, 1);
        }
    }

    /** All calls of a run live in one room, so nothing but an exception is made once an object stands. */
    private static void made(List<String> lines) {
        Pattern constructor = Pattern.compile("^( {4}public | {8})[A-Z]\\w*\\(.*\\{$");
        String end = "";
        int inConstructors = 0;
        for (String line : lines) {
            Matcher begins = constructor.matcher(line);
            if (begins.matches()) {
                end = begins.group(1).replace("public ", "") + "}";
            } else if (line.equals(end)) {
                end = "";
            }
            boolean makes = Pattern.compile("\\bnew\\b").matcher(line).find();
            inConstructors += makes && !end.isEmpty() ? 1 : 0;
            if (makes && end.isEmpty()) {
                C.same("made by a call: " + line.trim(), line.trim().startsWith("throw new ") ? 1 : 0, 1);
            }
        }
        C.same("what constructors make is seen", inConstructors > 10 ? 1 : 0, 1);
        C.same("the last constructor's end is seen", end, "");
    }

    private static void classes(List<String> lines) {
        int classes = 0;
        Deque<Integer> fields = new ArrayDeque<>();
        fields.push(0);
        for (String line : lines) {
            if (line.matches("^ {4}private static final class .*")) {
                classes++;
                fields.push(0);
            } else if (FIELD.matcher(line).matches()) {
                fields.push(fields.pop() + 1);
            }
            Matcher constant = STATIC.matcher(line);
            if (constant.matches()) {
                C.same("constant " + line.trim(), constant.group(1), "int");
            } else {
                C.same("static state: " + line.trim(), line.matches("^ +.*\\bstatic [^(]*[;=].*") ? 1 : 0, 0);
            }
        }
        C.same("at most twelve classes", classes + 1 <= 12 ? 1 : 0, 1);
        for (int count : fields) {
            C.same("at most twenty fields, here " + count, count <= 20 ? 1 : 0, 1);
        }
    }

    private static void methods(List<String> lines) {
        int methods = 0;
        for (int k = 0; k < lines.size(); k++) {
            Matcher member = MEMBER.matcher(lines.get(k));
            if (!member.matches()) {
                continue;
            }
            int end = k + 1;
            while (end < lines.size() && !lines.get(end).equals(member.group(1) + "}")) {
                end++;
            }
            if (member.group(1).length() == 8 && !lines.get(k).endsWith("{")) {
                continue;
            }
            methods++;
            String what = lines.get(k).trim();
            C.same("lines of " + what, end - k + 1 <= 60 ? 1 : 0, 1);
            String parameters = member.group(2).replaceAll("\\).*", "");
            C.same("parameters of " + what, parameters.split(",").length <= 7 ? 1 : 0, 1);
        }
        C.same("methods are seen", methods > 60 ? 1 : 0, 1);
    }
}
