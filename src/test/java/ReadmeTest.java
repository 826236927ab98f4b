import java.io.IOException;
import java.lang.reflect.Method;
import java.lang.reflect.Modifier;
import java.nio.file.DirectoryStream;
import java.nio.file.Files;
import java.nio.file.Path;
import java.util.ArrayList;
import java.util.List;
import java.util.Set;
import java.util.TreeSet;
import java.util.regex.Matcher;
import java.util.regex.Pattern;

/** README.md: the class answers what its runs say, and its tables tell the class, the document and the tests as they are. */
public final class ReadmeTest {
    private static final Check check = new Check();

    private static final String REFUSAL = "UNKNOWN|OUTSIDE|NOT|FULL";
    private static final String TELL = "static int tell(SignedCross cross, String text) {\n"
        + "    for (int k = 0; k < text.length(); k++) {\n"
        + "        cross.feed(text.charAt(k));\n"
        + "    }\n"
        + "    return cross.clan();\n"
        + "}\n";
    private static final String MADE = "SignedCross cross = new SignedCross();";
    private static final Pattern TOLD = Pattern.compile("tell\\(cross, \"([^\"]*)\"\\); // (-?\\d+)\\b.*");
    private static final Pattern ASKED = Pattern.compile(
        "cross\\.((\\w+)\\(((?:-?\\d+(?:, -?\\d+)*)?)\\)); +// (-?\\d+|NONE|" + REFUSAL + ")\\b.*");

    public static void main(String[] args) throws IOException {
        Path root = Path.of(args.length > 0 ? args[0] : ".");
        String readme = Files.readString(root.resolve("README.md"));
        runs(readme);
        refusals(readme);
        calls(readme, Files.readString(root.resolve("../shared/DOC.md")));
        tests(readme, root.resolve("src/test/java"));
        check.holds("README.md says how many calls an object is used for",
            readme.contains("at most " + Cross.MOST_CALLS + " calls"));
        check.holds("README.md says how the tests are run", readme.contains("```sh\n.ci/run\n```"));
        check.end();
    }

    // ---- its runs of calls

    private static void runs(String readme) {
        List<String> blocks = new ArrayList<>();
        Matcher matcher = Pattern.compile("(?s)```java\n(.*?)```").matcher(readme);
        while (matcher.find()) {
            blocks.add(matcher.group(1));
        }
        check.due("blocks of Java in README.md", blocks.size(), 3);
        if (blocks.size() == 3) {
            check.same("how a text is told", blocks.get(0), TELL);
            run(blocks.get(1), 30);
            run(blocks.get(2), 10);
        }
    }

    private static void run(String block, int leastAnswers) {
        String[] lines = block.split("\n");
        check.same("the first line of a run", lines[0], MADE);
        Cross x = new Cross();
        int answers = 0;
        for (int k = 1; k < lines.length; k++) {
            boolean saysNothing = lines[k].isEmpty() || lines[k].startsWith("//");
            if (!saysNothing) {
                answer(x, lines[k]);
                answers++;
            }
        }
        check.holds(answers + " answers are a run to learn from", answers >= leastAnswers);
    }

    private static void answer(Cross x, String line) {
        Matcher told = TOLD.matcher(line);
        Matcher asked = ASKED.matcher(line);
        if (told.matches()) {
            check.due("README.md: " + line, Check.tell(x, told.group(1)), Integer.parseInt(told.group(2)));
        } else if (asked.matches() && isCall(asked.group(2), parameters(asked.group(3)))) {
            check.due("README.md: " + line, x.ask(asked.group(1)), number(asked.group(4)));
        } else {
            check.holds("README.md: '" + line + "' is a call of the class with its answer", false);
        }
    }

    private static int number(String answer) {
        switch (answer) {
            case "NONE": return SignedCross.NONE;
            case "UNKNOWN": return SignedCross.UNKNOWN;
            case "OUTSIDE": return SignedCross.OUTSIDE;
            case "NOT": return SignedCross.NOT;
            case "FULL": return SignedCross.FULL;
            default: return Integer.parseInt(answer);
        }
    }

    private static int parameters(String inside) {
        return inside.isEmpty() ? 0 : inside.split(",").length;
    }

    private static boolean isCall(String name, int parameters) {
        return face().contains(name + "/" + parameters);
    }

    private static Set<String> face() {
        Set<String> names = new TreeSet<>();
        for (Method method : SignedCross.class.getDeclaredMethods()) {
            if (Modifier.isPublic(method.getModifiers())) {
                names.add(method.getName() + "/" + method.getParameterCount());
            }
        }
        return names;
    }

    // ---- its tables

    /** The refusals stand in the order in which the first is answered, with the numbers that they are. */
    private static void refusals(String readme) {
        Matcher row = Pattern.compile("(?m)^\\| `(" + REFUSAL + ")` \\| (-?\\d+) \\|").matcher(readme);
        StringBuilder order = new StringBuilder();
        while (row.find()) {
            order.append(row.group(1)).append(' ');
            check.due("README.md: " + row.group(1), Integer.parseInt(row.group(2)), number(row.group(1)));
        }
        check.same("the order of refusals", order.toString(), "UNKNOWN OUTSIDE NOT FULL ");
    }

    /** Every call of the document's promises, in their order, with its parameters and refusals. */
    private static void calls(String readme, String document) {
        Matcher row = Pattern.compile("(?m)^\\| `(\\w+)\\(([^)]*)\\)` \\| .* \\|([^|\n]*)\\|$").matcher(readme);
        StringBuilder got = new StringBuilder();
        Set<String> names = new TreeSet<>();
        while (row.find()) {
            got.append(row.group(1)).append('(').append(row.group(2)).append(')').append(words(row.group(3))).append('\n');
            names.add(row.group(1) + "/" + parameters(row.group(2)));
        }
        Matcher promise = Pattern.compile("(?m)^`int (\\w+)\\(([^)]*)\\)`: (.*)$").matcher(document);
        StringBuilder due = new StringBuilder();
        while (promise.find()) {
            String inside = promise.group(2).replace("int ", "");
            due.append(promise.group(1)).append('(').append(inside).append(')').append(words(promise.group(3))).append('\n');
        }
        check.same("the calls of README.md and their refusals", got.toString(), due.toString());
        check.same("the calls of README.md", names.toString(), face().toString());
    }

    private static String words(String text) {
        StringBuilder found = new StringBuilder();
        Matcher matcher = Pattern.compile("\\b(" + REFUSAL + ")\\b").matcher(text);
        while (matcher.find()) {
            found.append(' ').append(matcher.group());
        }
        return found.toString();
    }

    private static void tests(String readme, Path folder) throws IOException {
        Set<String> there = new TreeSet<>();
        try (DirectoryStream<Path> files = Files.newDirectoryStream(folder, "*Test.java")) {
            for (Path file : files) {
                there.add(file.getFileName().toString().replace(".java", ""));
            }
        }
        Set<String> named = new TreeSet<>();
        Matcher row = Pattern.compile("(?m)^\\| `(\\w+Test)` \\|").matcher(readme);
        while (row.find()) {
            named.add(row.group(1));
        }
        check.same("the tests that README.md names", named.toString(), there.toString());
    }
}
