import java.io.IOException;
import java.nio.file.Files;
import java.nio.file.Path;
import java.util.ArrayList;
import java.util.LinkedHashMap;
import java.util.List;
import java.util.Map;
import java.util.regex.Matcher;
import java.util.regex.Pattern;
import java.util.stream.Stream;

/**
 * That no sentence of the document is without a test, but for those that have no edge: each has to stand, part by
 * part, in the remarks of the tests, which tell it as: the document's section, a colon, and its words in quotation
 * marks. And that what a remark tells stands in the document.
 */
public final class SentencesTest {
    private static final Path DOCUMENT = Path.of("../shared/DOC.md");
    private static final Path TESTS = Path.of("src/test/java");

    private static final Pattern HEADING =
            Pattern.compile("(?:## (Promise \\d+|What it is|Terms|Not promised|The public face).*|== (\\d\\. .*))");
    private static final Pattern REMARK = Pattern.compile("/\\*\\*(.*?)\\*/", Pattern.DOTALL);
    private static final Pattern QUOTE =
            Pattern.compile("(Promise \\d+|What it is|Terms|\\d\\. [A-Z][a-z]+(?: link)?): \"([^\"]*)\"");

    // What no test can hold: what all is about, the names of the calls, and parameters without a number.
    private static final String[] WITHOUT_AN_EDGE = {
        "^A linker and a loader\\.$", "^Its calls: .*", "^All numbers are whole\\. ", "^Ahead of the calls .*",
        "^`[^`]*`: ?", "^- `\\w+`: [^0-9]*$", "^- `what`: ", "^- ",
    };

    private final Check check = new Check("SentencesTest");
    private final Map<String, List<String>> lines = new LinkedHashMap<>();
    private final Map<String, List<String>> told = new LinkedHashMap<>();

    public static void main(String[] args) throws IOException {
        if (!Files.isReadable(DOCUMENT)) {
            System.out.println("SentencesTest: there is no " + DOCUMENT + " here, so no sentence is looked for");
            return;
        }
        SentencesTest test = new SentencesTest();
        test.readDocument();
        test.readRemarks();
        test.eachQuoteIsThere();
        test.eachSentenceIsTold();
        test.check.end();
    }

    private static String plain(String text) {
        return text.replaceAll("\\s+", " ").trim();
    }

    private void readDocument() throws IOException {
        String section = "";
        for (String line : Files.readAllLines(DOCUMENT)) {
            Matcher heading = HEADING.matcher(line);
            if (heading.matches()) {
                section = heading.group(1) == null ? heading.group(2) : heading.group(1);
                lines.put(section, new ArrayList<>());
            } else if (lines.containsKey(section) && !line.isBlank() && !line.startsWith("```")) {
                lines.get(section).add(plain(line));
            }
        }
        lines.remove("The public face");
        lines.remove("Not promised");
        check.due("all sections were found", 35, lines.size());
    }

    private void readRemarks() throws IOException {
        try (Stream<Path> files = Files.list(TESTS)) {
            for (Path file : files.filter(f -> f.toString().endsWith("Test.java")).sorted().toList()) {
                Matcher remark = REMARK.matcher(Files.readString(file));
                while (remark.find()) {
                    readQuotes(plain(remark.group(1).replaceAll("(?m)^\\s*\\*", "")));
                }
            }
        }
    }

    private void readQuotes(String remark) {
        Matcher quote = QUOTE.matcher(remark);
        while (quote.find()) {
            told.computeIfAbsent(quote.group(1), k -> new ArrayList<>()).add(quote.group(2));
        }
    }

    private void eachQuoteIsThere() {
        for (Map.Entry<String, List<String>> e : told.entrySet()) {
            String text = String.join(" ", lines.getOrDefault(e.getKey(), List.of()));
            for (String quote : e.getValue()) {
                check.due("in " + e.getKey() + ": " + quote, "true", String.valueOf(text.contains(quote)));
            }
        }
    }

    private void eachSentenceIsTold() {
        for (Map.Entry<String, List<String>> e : lines.entrySet()) {
            for (String line : e.getValue()) {
                String left = line;
                for (String pattern : WITHOUT_AN_EDGE) {
                    left = left.replaceFirst(pattern, "");
                }
                left = withoutQuotes(left, told.getOrDefault(e.getKey(), List.of()));
                check.due("told by no remark, of " + e.getKey() + ": " + line, "", left);
            }
        }
    }

    /** What is left of the line, where no quote, nor a part of one that goes over its end, tells it. */
    private static String withoutQuotes(String line, List<String> quotes) {
        boolean[] isTold = new boolean[line.length()];
        for (String quote : quotes) {
            for (int at = line.indexOf(quote); at >= 0; at = line.indexOf(quote, at + 1)) {
                for (int k = at; k < at + quote.length(); k++) {
                    isTold[k] = true;
                }
            }
            if (!line.isEmpty() && quote.contains(line)) {
                return "";
            }
        }
        StringBuilder left = new StringBuilder();
        for (int k = 0; k < line.length(); k++) {
            left.append(isTold[k] || ";.:, ".indexOf(line.charAt(k)) >= 0 ? "" : line.charAt(k));
        }
        return left.toString();
    }
}
