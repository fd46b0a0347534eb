import java.io.IOException;
import java.nio.file.Files;
import java.nio.file.Path;
import java.util.ArrayList;
import java.util.HashMap;
import java.util.List;
import java.util.Locale;
import java.util.Map;
import java.util.regex.Matcher;
import java.util.regex.Pattern;
import java.util.stream.Collectors;
import java.util.stream.Stream;

/**
 * That README.md tells every call, in its group and in the document's order, and what it throws in the document's
 * words; that its example answers what it says; and that it tells every test.
 */
public final class ReadmeTest {
    private static final Path README = Path.of("README.md");
    private static final Path DOCUMENT = Path.of("../shared/DOC.md");
    private static final Path TESTS = Path.of("src/test/java");
    private static final String SELF = "ReadmeTest.java";

    private static final Pattern GROUP = Pattern.compile("the interface says: ---- ([a-z ]+)");
    private static final Pattern GROUP_CALLS = Pattern.compile("`(\\w+)`");
    private static final Pattern PROMISE = Pattern.compile("`(\\w+ \\w+\\([^)]*\\))[^`]*`:.*");
    private static final Pattern ROW = Pattern.compile("\\| `(\\w+ \\w+\\([^)]*\\))` \\| .+ \\| .+ \\| (.+) \\|");
    private static final Pattern TEST_ROW = Pattern.compile("\\| `(\\w+Test)` \\| .+ \\|");

    private static final Pattern ANSWER = Pattern.compile("int (\\w+) = .*; +// (-?\\d+)(:.*)?");

    private final Check check = new Check("ReadmeTest");
    private final List<String> readme;
    // What the variables of the example hold, by name.
    private final Map<String, Integer> answers = new HashMap<>();

    private ReadmeTest(List<String> readme) {
        this.readme = readme;
    }

    public static void main(String[] args) throws IOException {
        ReadmeTest test = new ReadmeTest(Files.readAllLines(README));
        test.calls();
        test.theExample();
        test.theExampleIsThere();
        test.theTests();
        test.check.end();
    }

    private void calls() throws IOException {
        if (!Files.isReadable(DOCUMENT)) {
            System.out.println("ReadmeTest: there is no " + DOCUMENT + " here, so the calls are not looked at");
            return;
        }
        List<String> document = Files.readAllLines(DOCUMENT);
        List<String> due = callsOfTheDocument(document);
        List<String> told = callsOfTheReadme();
        check.due("calls of the document", 29 + 4, due.size());
        check.due("calls that README.md tells", due.size(), told.size());
        for (int k = 0; k < Math.min(due.size(), told.size()); k++) {
            check.due("line " + k + " of the groups and calls", due.get(k), told.get(k));
        }
    }

    /** The first word of each group, and each call with what it throws. */
    private static List<String> callsOfTheDocument(List<String> document) {
        List<String> promises = new ArrayList<>();
        for (String line : document) {
            Matcher promise = PROMISE.matcher(line);
            if (promise.matches()) {
                promises.add(promise.group(1) + ": ");
            } else if (line.startsWith("Throws ") && !promises.isEmpty()) {
                int last = promises.size() - 1;
                String before = promises.get(last);
                promises.set(last, before + (before.endsWith(": ") ? "" : "; ") + line.substring("Throws ".length()));
            }
        }
        List<String> all = new ArrayList<>();
        for (String line : document) {
            Matcher group = GROUP.matcher(line);
            if (group.find()) {
                all.add(firstWord(group.group(1)));
                Matcher call = GROUP_CALLS.matcher(line);
                while (call.find()) {
                    String name = " " + call.group(1) + "(";
                    promises.stream().filter(p -> p.contains(name)).forEach(all::add);
                }
            }
        }
        return all;
    }

    private static String firstWord(String heading) {
        return heading.toLowerCase(Locale.ROOT).split("[ :]")[0];
    }

    private List<String> callsOfTheReadme() {
        List<String> all = new ArrayList<>();
        for (String line : readme) {
            Matcher row = ROW.matcher(line);
            if (line.startsWith("### ")) {
                all.add(firstWord(line.substring("### ".length())));
            } else if (row.matches()) {
                all.add(row.group(1) + ": " + (row.group(2).equals("nothing") ? "" : row.group(2)));
            }
        }
        return all;
    }

    // Its lines are those of README.md; what they answer is compared with what is said there.
    private void theExample() {
        LinkHarbour x = new LinkHarbour();
        int main = x.object();
        int code = x.section(main, 1, true);
        x.define(code, 0, false, false);
        x.jump(code, 5, false);
        x.item(1 << main, 0);
        int faults = x.link(0, true);
        answers.put("faults", faults);
        check.due("IMPORT", 1, x.ofName(5, 3));
        int user = x.publish(1 << 1);
        answers.put("user", user);

        int other = x.object();
        int data = x.section(other, 4, false);
        x.define(data, 5, false, false);
        x.word(data, 5, 7, false);
        x.clear();
        x.item(1 << other, 0);
        x.link(5, true);
        int word = x.wordAt(4);
        answers.put("word", word);
        int owner = x.publish(0);
        answers.put("owner", owner);
        check.due("EXPORT", 4, x.ofBinding(owner, 5, 0));

        int loaded = x.open(user, false);
        answers.put("loaded", loaded);
        int to = x.call(user, 5);
        answers.put("to", to);
        int where = x.ofBinding(user, 5, 3);
        answers.put("where", where);
        check.due("BASE", 128, x.ofLibrary(owner, 5));
        int finished = x.close(user);
        answers.put("finished", finished);
        check.due("none is LOADED", 0, x.many(4));
    }

    private static String withoutRemark(String line) {
        return line.replaceAll("//.*", "").trim();
    }

    private void theExampleIsThere() throws IOException {
        List<String> here = Files.readAllLines(TESTS.resolve(SELF)).stream().map(String::trim).toList();
        int start = readme.indexOf("```java");
        check.due("an example is there", 1, start >= 0 ? 1 : 0);
        int lines = 0;
        int said = 0;
        int at = 0;
        for (int k = start + 1; k < readme.size() && !readme.get(k).equals("```"); k++) {
            String line = withoutRemark(readme.get(k));
            if (!line.isEmpty()) {
                int found = here.subList(at, here.size()).indexOf(line);
                check.due("behind the line above it, in " + SELF + ": " + line, 1, found >= 0 ? 1 : 0);
                at += Math.max(found, 0);
                lines++;
            }
            Matcher answer = ANSWER.matcher(readme.get(k));
            if (answer.matches()) {
                check.due(answer.group(1), Integer.parseInt(answer.group(2)),
                        answers.getOrDefault(answer.group(1), Integer.MIN_VALUE));
                said++;
            }
        }
        check.due("lines of the example", 21, lines);
        check.due("answers of the example", answers.size(), said);
    }

    private void theTests() throws IOException {
        String told = readme.stream().map(TEST_ROW::matcher).filter(Matcher::matches).map(row -> row.group(1))
                .sorted().collect(Collectors.joining(" "));
        try (Stream<Path> files = Files.list(TESTS)) {
            String there = files.map(f -> f.getFileName().toString()).filter(f -> f.endsWith("Test.java"))
                    .map(f -> f.replace(".java", "")).sorted().collect(Collectors.joining(" "));
            check.due("the tests that README.md tells", there, told);
        }
    }
}
