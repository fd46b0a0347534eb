import java.io.IOException;
import java.io.PrintWriter;
import java.io.StringWriter;
import java.nio.file.Files;
import java.nio.file.Path;
import java.util.ArrayList;
import java.util.HashMap;
import java.util.List;
import java.util.Map;
import java.util.Set;
import java.util.TreeSet;
import java.util.regex.Matcher;
import java.util.regex.Pattern;
import java.util.spi.ToolProvider;

/** What of ../shared/LANGUAGE.md can be seen in the text of the program, and how deep its calls go. */
public final class LanguageTest {
    private static final Path SOURCE = Path.of("src/main/java/LinkHarbour.java");
    private static final int MOST_LINES = 60;
    private static final int MOST_PARAMETERS = 7;
    private static final int MOST_CLASSES = 12;
    private static final int MOST_FIELDS = 20;
    private static final int DEEPEST = 8;

    private static final String[] FORBIDDEN = {
        "package ", "import ", "->", "::", "assert", "try {", "catch", "finally", "synchronized", "volatile",
        "native", "transient", "Exact", "Thread", "System.", "Object ", "var ", "equals", "hashCode", "toString",
        "protected", "while (true)", "for (;;)", "Exception e", "\"\"\"",
    };

    private static final Pattern THROW = Pattern.compile(
            "throw new (IllegalStateException|IllegalArgumentException|IndexOutOfBoundsException)\\(\"[^\"]*\"\\);");
    private static final Pattern METHOD = Pattern.compile(
            "^( {4}| {8})(?:public |private |static )*(?:int|long|boolean|double|void) (\\w+)\\(([^)]*)\\).*$");
    private static final Pattern FIELD = Pattern.compile("^( {4}| {8})(private )?(final )?[\\w\\[\\]]+ \\w+( = .*)?;$");

    private final Check check = new Check("LanguageTest");

    public static void main(String[] args) throws IOException {
        LanguageTest test = new LanguageTest();
        List<String> lines = Files.readAllLines(SOURCE);
        test.signs(lines);
        test.words(lines);
        test.methods(lines);
        test.classes(lines);
        test.depth();
        test.check.end();
    }

    private static String withoutComment(String line) {
        String text = line.trim();
        if (text.startsWith("*") || text.startsWith("/**") || text.startsWith("//")) {
            return "";
        }
        return line.replaceAll("\"[^\"]*\"", "\"\"");
    }

    private void signs(List<String> lines) {
        for (String line : lines) {
            check.due("signs of 1 to 127 alone in: " + line, "true",
                    String.valueOf(line.chars().allMatch(c -> c >= 32 && c <= 126)));
        }
    }

    private void words(List<String> lines) {
        for (String line : lines) {
            String code = withoutComment(line);
            for (String word : FORBIDDEN) {
                check.due("'" + word + "' in: " + line, "false", String.valueOf(code.contains(word)));
            }
            if (code.contains("throw ")) {
                check.due("a plain throw: " + line, "true", String.valueOf(THROW.matcher(line.trim()).matches()));
            }
            if (code.contains("static ") && !code.contains("(") && !code.contains("class ")) {
                check.due("a constant: " + line, "true", String.valueOf(code.contains("private static final ")));
            }
        }
    }

    private void methods(List<String> lines) {
        for (int k = 0; k < lines.size(); k++) {
            String line = lines.get(k);
            Matcher matcher = METHOD.matcher(line);
            if (!matcher.matches()) {
                continue;
            }
            String end = matcher.group(1) + "}";
            int last = k;
            while (!lines.get(last).equals(end)) {
                last++;
            }
            check.due(matcher.group(2) + " has not too many lines", 1, last - k + 1 <= MOST_LINES ? 1 : 0);
            check.due(matcher.group(2) + " has not too many parameters", 1,
                    matcher.group(3).split(",").length <= MOST_PARAMETERS ? 1 : 0);
        }
    }

    private void classes(List<String> lines) {
        int classes = 0;
        int fields = 0;
        int outer = 0;
        for (String line : lines) {
            if (line.contains("class ") && line.endsWith("{")) {
                classes++;
                fields = 0;
            }
            if (FIELD.matcher(line).matches() && !line.contains("return")) {
                boolean isOuter = line.startsWith("    ") && !line.startsWith("     ");
                fields += isOuter ? 0 : 1;
                outer += isOuter ? 1 : 0;
            }
            check.due("fields up to: " + line, 1, fields <= MOST_FIELDS && outer <= MOST_FIELDS ? 1 : 0);
        }
        check.due("not too many classes", 1, classes <= MOST_CLASSES ? 1 : 0);
    }

    /** Nothing here is recursive, so each chain of calls has an end. */
    private void depth() {
        ToolProvider javap = ToolProvider.findFirst("javap").orElse(null);
        if (javap == null) {
            System.out.println("LanguageTest: there is no javap here, so the depth of calls is not looked at");
            return;
        }
        Map<String, Set<String>> calls = new HashMap<>();
        List<String> names = new ArrayList<>(List.of("LinkHarbour"));
        for (Class<?> inside : LinkHarbour.class.getDeclaredClasses()) {
            names.add(inside.getName());
        }
        for (String name : names) {
            StringWriter text = new StringWriter();
            javap.run(new PrintWriter(text), new PrintWriter(text), "-c", "-p", "-cp",
                    System.getProperty("java.class.path"), name);
            readCalls(name, text.toString(), calls);
        }
        check.due("methods were found", 1, calls.size() > 100 ? 1 : 0);
        for (String method : calls.keySet()) {
            check.due("the depth of " + method, 1, depthOf(method, calls, 0) <= DEEPEST ? 1 : 0);
        }
    }

    private static void readCalls(String name, String text, Map<String, Set<String>> calls) {
        Pattern head = Pattern.compile("^  (?:[\\w\\[\\].$]+ )*([\\w$.]+)\\(.*\\).*;$");
        Pattern call = Pattern.compile("// Method (?:([\\w$/]+)\\.)?\"?([\\w<>]+)\"?:");
        Set<String> here = new TreeSet<>();
        for (String line : text.split("\n")) {
            Matcher isHead = head.matcher(line);
            Matcher isCall = call.matcher(line);
            if (isHead.matches()) {
                String method = isHead.group(1).equals(name) ? "<init>" : isHead.group(1);
                here = calls.computeIfAbsent(name + "." + method, k -> new TreeSet<>());
            } else if (isCall.find()) {
                here.add((isCall.group(1) == null ? name : isCall.group(1)) + "." + isCall.group(2));
            }
        }
    }

    private static int depthOf(String method, Map<String, Set<String>> calls, int above) {
        if (!calls.containsKey(method)) {
            return 0;
        }
        if (above > 50) {
            return above;
        }
        int deepest = 0;
        for (String next : calls.get(method)) {
            deepest = Math.max(deepest, depthOf(next, calls, above + 1));
        }
        return deepest + 1;
    }
}
