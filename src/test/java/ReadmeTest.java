import java.io.File;
import java.lang.reflect.Method;
import java.lang.reflect.Modifier;
import java.nio.file.Files;
import java.nio.file.Path;
import java.util.ArrayList;
import java.util.List;
import java.util.Set;
import java.util.TreeSet;
import java.util.regex.Matcher;
import java.util.regex.Pattern;

/** README.md followed to the letter; .ci/run starts it in the root. */
public final class ReadmeTest {
    private static final String CLASS_FILE = "src/main/java/EveningAuction.java";
    private static final Due due = new Due("ReadmeTest");

    public static void main(String[] args) throws Exception {
        String page = Files.readString(Path.of("README.md"));
        example(page);
        tableOfCalls(page);
        tableOfTests(page);
        refusals(page);
        due.finish();
    }

    /** The example is saved, compiled and run by the page's commands, in a folder that holds the class alone. */
    private static void example(String page) throws Exception {
        String use = section(page, "Use");
        List<String> examples = all("(?s)```java\n(.*?)```", use);
        List<String> commands = all("(?m)^    (javac? .*)$", use);
        due.is("examples", examples.size(), 1);
        due.is("commands of the example", commands.size(), 2);
        Path folder = Files.createTempDirectory("readme");
        Files.createDirectories(folder.resolve(CLASS_FILE).getParent());
        Files.copy(Path.of(CLASS_FILE), folder.resolve(CLASS_FILE));
        Files.writeString(folder.resolve("Mine.java"), examples.get(0));
        File printed = folder.resolve("printed").toFile();
        for (String command : commands) {
            Process process = new ProcessBuilder(command.split(" ")).directory(folder.toFile())
                .redirectErrorStream(true).redirectOutput(printed).start();
            due.is(command, process.waitFor(), 0);
        }
        compare(examples.get(0), Files.readAllLines(printed.toPath()));
        remove(folder.toFile());
    }

    private static void compare(String example, List<String> printed) {
        List<String> calls = all("println\\((.*)\\);", example);
        List<String> answers = all("println\\(.*\\); *// (-?\\d+)\n", example);
        due.is("each line of the example tells its answer", answers.size(), calls.size());
        due.is("lines that the example prints", printed.size(), calls.size());
        for (int i = 0; i < answers.size() && i < printed.size(); i++) {
            boolean same = printed.get(i).equals(answers.get(i));
            due.is(calls.get(i) + " prints " + printed.get(i) + ", README.md says " + answers.get(i), same ? 1 : 0, 1);
        }
    }

    private static void tableOfCalls(String page) {
        Set<String> calls = new TreeSet<>();
        for (Method method : EveningAuction.class.getDeclaredMethods()) {
            if (Modifier.isPublic(method.getModifiers())) {
                calls.add(method.getName());
            }
        }
        same("the table of calls", firstColumn(section(page, "Use")), calls);
    }

    private static void tableOfTests(String page) {
        Set<String> tests = new TreeSet<>();
        for (String name : new File("src/test/java").list()) {
            if (name.endsWith("Test.java")) {
                tests.add(name.replace(".java", ""));
            }
        }
        same("the table of tests", firstColumn(section(page, "Tests")), tests);
    }

    /** The numbers by which the page tells refusals are those that the calls answer. */
    private static void refusals(String page) {
        EveningAuction x = Due.withBids("0");
        x.sheet(0, 2, 1);
        x.sheet(1, 0, 1);
        told(page, "`BAD` (%d)", x.owner(10));
        told(page, "`NOT` (%d)", x.undo());
        told(page, "`FULL` (%d)", Due.withBids("0".repeat(100)).type('0'));
        told(page, "`NONE` (%d)", x.owner(0));
        told(page, "%d it is lost", x.lose(3));
        told(page, "%d no such item", x.lay(0, 2, 1, 0));
        told(page, "%d it has another form", x.lay(0, 1, 0, 0));
        told(page, "%d unlike forms", x.copy(0, 0, 1, 0, 1));
        told(page, "%d a size below 0", x.sheet(0, 0, -1));
        told(page, "`gain` tells BAD as %d", x.gain(5));
        due.is("count(8) behind a finding", x.count(8), 5);
        due.is("get() of no sheet", x.get(4, 0, 0), Integer.MIN_VALUE);
        due.is("count(8) behind BAD of get()", x.count(8), 5);
        due.is("get() of no item", x.get(0, 2, 1), Integer.MIN_VALUE);
        due.is("count(8) behind a finding of get()", x.count(8), 2);
    }

    private static void told(String page, String words, int answer) {
        String sentence = String.format(words, answer);
        due.is("README.md says: " + sentence, page.contains(sentence) ? 1 : 0, 1);
    }

    private static void same(String what, Set<String> got, Set<String> want) {
        due.is(what + " has " + got + " of " + want, got.equals(want) ? 1 : 0, 1);
    }

    private static String section(String page, String title) {
        List<String> found = all("(?s)\n## " + title + "\n(.*?)(?=\n## |$)", page);
        due.is("sections " + title, found.size(), 1);
        return found.isEmpty() ? "" : found.get(0);
    }

    private static Set<String> firstColumn(String section) {
        Set<String> names = new TreeSet<>();
        for (String cell : all("(?m)^\\| (`[^|]*) \\|", section)) {
            names.addAll(all("`(\\w+)`", cell));
        }
        return names;
    }

    private static List<String> all(String pattern, String text) {
        List<String> found = new ArrayList<>();
        Matcher m = Pattern.compile(pattern).matcher(text);
        while (m.find()) {
            found.add(m.group(1));
        }
        return found;
    }

    private static void remove(File file) {
        File[] inside = file.listFiles();
        for (int i = 0; inside != null && i < inside.length; i++) {
            remove(inside[i]);
        }
        file.delete();
    }
}
