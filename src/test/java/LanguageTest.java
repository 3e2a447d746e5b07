import java.nio.file.Files;
import java.nio.file.Path;
import java.util.regex.Matcher;
import java.util.regex.Pattern;

/** What of ../shared/LANGUAGE.md can be seen from the words of the file; .ci/run starts it in the root. */
public final class LanguageTest {
    private static final String[] RULED_OUT = {
        "throw", "throws", "try", "catch", "finally", "synchronized", "assert", "import", "package", "protected",
        "volatile", "transient", "native", "strictfp", "lambda", "var", "Object", "System\\.(?!arraycopy)\\w+",
        "\\w+Exact", "\\w*Exception", "Thread", "Random", "MIN_VALUE", "MAX_VALUE", "hashCode", "toString",
        "double", "float"};
    private static final Due due = new Due("LanguageTest");

    public static void main(String[] args) throws Exception {
        String source = Files.readString(Path.of("src/main/java/EveningAuction.java"));
        String code = withoutComments(source);
        for (String word : RULED_OUT) {
            due.is(word, count("\\b" + word + "\\b", code), 0);
        }
        due.is("->", count("->", code), 0);
        due.is("::", count("::", code), 0);
        due.is("a loop without a bound", count("while \\(true\\)|for \\(;;\\)", code), 0);
        due.is("rows of three dimensions", count("\\[\\]\\[\\]\\[\\]", code), 0);
        due.is("signs above 126", count("[^\\x00-\\x7e]", source), 0);
        due.is("texts", count("\"", code), 0);
        longMethods(code);
        due.finish();
    }

    private static String withoutComments(String source) {
        return source.replaceAll("(?s)/\\*.*?\\*/", "").replaceAll("//[^\n]*", "");
    }

    private static int count(String pattern, String code) {
        Matcher m = Pattern.compile(pattern).matcher(code);
        int n = 0;
        while (m.find()) {
            n++;
        }
        return n;
    }

    /** A method begins with a line that ends its parameters and opens a brace, and ends at its own indent. */
    private static void longMethods(String code) {
        String[] lines = code.split("\n");
        Pattern head = Pattern.compile("^( {4}| {8})(?! )(?!.*\\bclass\\b).*\\(([^()]*)\\) \\{$");
        for (int i = 0; i < lines.length; i++) {
            Matcher m = head.matcher(lines[i]);
            if (m.matches()) {
                int end = i;
                while (end < lines.length - 1 && !lines[end].equals(m.group(1) + "}")) {
                    end++;
                }
                due.is("lines of " + lines[i].trim(), end - i < 60 ? 1 : 0, 1);
                due.is("parameters of " + lines[i].trim(), m.group(2).split(",").length <= 7 ? 1 : 0, 1);
            }
        }
    }
}
