import java.nio.file.Files;
import java.nio.file.Path;
import java.util.regex.Matcher;
import java.util.regex.Pattern;

/**
 * The words of ../shared/DOC.md that promise something: part 0 is the terms, parts 1 to 41 are the promises.
 * A test quotes its sentence, so that it can be seen which words no test has quoted. Where the file is not
 * at hand the answers are tested all the same, but no quote is looked up, and that is said.
 */
final class Document {
    static final int PROMISES = 41;

    private static final Path FILE = Path.of("../shared/DOC.md");

    private final boolean isAtHand = Files.exists(FILE);
    private final String[] parts = new String[PROMISES + 1];
    private final boolean[][] quoted = new boolean[PROMISES + 1][];

    Document() throws Exception {
        if (!isAtHand) {
            System.out.println("there is no " + FILE + ": quotes are not looked up");
            return;
        }
        String whole = Files.readString(FILE);
        parts[0] = plain(first(whole, "======== 1 (BIDDERS[^\n]*)\n")
            + " " + first(whole, "\n(An object is used[^\n]*)\n")
            + " " + first(whole, "(?s)\n## Terms\n(.*?)\n## Promise 1:"));
        for (int n = 1; n <= PROMISES; n++) {
            parts[n] = plain(first(whole, "\n## Promise " + n + ": [^\n]*\n\n`[^`]*`: ([^\n]*)\n"));
        }
        for (int n = 0; n <= PROMISES; n++) {
            quoted[n] = new boolean[parts[n].length()];
        }
    }

    private static String first(String text, String pattern) {
        Matcher m = Pattern.compile(pattern).matcher(text);
        if (!m.find()) {
            throw new IllegalStateException("the document has no " + pattern);
        }
        return m.group(1);
    }

    /** Without fences, numbers of sections and remarks on where calls stand in the interface. */
    private static String plain(String text) {
        return text.replaceAll("```(text)?", " ").replaceAll("======== \\d", " ")
            .replaceAll("(?m)^Ahead of the calls .*$", " ").replaceAll("\\s+", " ").trim();
    }

    /** Whether the part has this sentence; of like ones the first that is not quoted yet is quoted. */
    boolean quote(int part, String sentence) {
        if (!isAtHand) {
            return true;
        }
        int found = parts[part].indexOf(sentence);
        int at = found;
        while (at >= 0 && isQuoted(part, at, sentence.length())) {
            at = parts[part].indexOf(sentence, at + 1);
        }
        int from = at >= 0 ? at : found;
        for (int i = 0; from >= 0 && i < sentence.length(); i++) {
            quoted[part][from + i] = true;
        }
        return from >= 0;
    }

    private boolean isQuoted(int part, int from, int length) {
        for (int i = from; i < from + length; i++) {
            if (!quoted[part][i]) {
                return false;
            }
        }
        return true;
    }

    /** The words of a part that no test has quoted. */
    String left(int part) {
        StringBuilder left = new StringBuilder();
        for (int i = 0; isAtHand && i < parts[part].length(); i++) {
            left.append(quoted[part][i] ? ' ' : parts[part].charAt(i));
        }
        return left.toString().replaceAll("[\\s.,;:]+", " ").trim();
    }
}
