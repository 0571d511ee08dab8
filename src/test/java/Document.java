import java.io.IOException;
import java.nio.file.Files;
import java.nio.file.Path;

/**
 * A part of ../shared/DOC.md: each test names the words that it holds the program to, and words without a test are
 * told at the end. Headings and the methods' own lines are left to FaceTest.
 */
final class Document {
    private static final Path FILE = Path.of("../shared/DOC.md");

    private final Checks checks;
    private final String words;
    private final boolean[] tested;

    /** From the words first up to the words behind, which belong to the next part. */
    Document(Checks checks, String first, String behind) {
        this.checks = checks;
        String all = folded();
        int start = all.indexOf(first);
        int end = all.indexOf(behind);
        checks.same("the document has <" + first + "> ahead of <" + behind + ">", start >= 0 && start < end ? 1 : 0, 1);
        words = start >= 0 && start < end ? all.substring(start, end) : "";
        tested = new boolean[words.length()];
    }

    private static String folded() {
        String all;
        try {
            all = Files.readString(FILE);
        } catch (IOException e) {
            throw new IllegalStateException("no " + FILE + ": tests are started in the project's folder", e);
        }
        return all.replaceAll("(?s)```java.*?```", " ").replaceAll("```(text)?", " ").replaceAll("(?m)^#.*$", " ")
            .replaceAll("`[^`]*`:", " ").replaceAll("\\s+", " ");
    }

    /** The test that follows holds the program to these words. */
    void says(String sentence) {
        int at = words.indexOf(sentence);
        checks.same("the document says <" + sentence + ">", at >= 0 ? 1 : 0, 1);
        while (at >= 0) {
            for (int i = at; i < at + sentence.length(); i++) {
                tested[i] = true;
            }
            at = words.indexOf(sentence, at + 1);
        }
    }

    void end() {
        StringBuilder left = new StringBuilder();
        for (int i = 0; i < words.length(); i++) {
            left.append(tested[i] ? ' ' : words.charAt(i));
        }
        checks.same("words without a test", left.toString().trim().replaceAll("\\s+", " "), "");
    }
}
