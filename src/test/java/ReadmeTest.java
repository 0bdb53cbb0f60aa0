import java.io.IOException;
import java.lang.reflect.Method;
import java.lang.reflect.Modifier;
import java.nio.file.Files;
import java.nio.file.Path;
import java.util.ArrayList;
import java.util.Arrays;
import java.util.HashMap;
import java.util.List;
import java.util.Map;
import java.util.Set;
import java.util.TreeSet;
import java.util.regex.Matcher;
import java.util.regex.Pattern;
import java.util.stream.Collectors;
import java.util.stream.Stream;

/** README.md: what it shows of calls is what the class answers, and its tables have each call and each test once. */
public final class ReadmeTest {
    private static final Check CHECK = new Check("ReadmeTest");
    private static final int MOST_CALLS = 512;
    private static final Map<String, Integer> NAMED = Map.of("NONE", LateBridges.NONE, "UNKNOWN", LateBridges.UNKNOWN,
        "OUTSIDE", LateBridges.OUTSIDE, "NOT", LateBridges.NOT, "FULL", LateBridges.FULL);
    private static final Pattern MADE = Pattern.compile("LateBridges x = new LateBridges\\(\\);");
    private static final Pattern TOLD =
        Pattern.compile("for \\(char letter : \"([^\"]*)\"\\.toCharArray\\(\\)\\) x\\.feed\\(letter\\);");
    private static final Pattern CALLED = Pattern.compile("x\\.(\\w+)\\(([^)]*)\\); +// (-?\\d+|[A-Z]+)(: .*)?");
    private static final Pattern CALL_ROW = Pattern.compile("\\| `(\\w+)\\(([^)]*)\\)` \\| .* \\| ?(.*) ?\\|");
    private static final Pattern TEST_ROW = Pattern.compile("\\| (\\w+Test) \\| .+ \\|");
    private static final Pattern REFUSAL_ROW = Pattern.compile("\\| `([A-Z]+)` \\| (-\\d+) \\| .+ \\|");
    private static final Pattern REFUSAL = Pattern.compile("\\b(UNKNOWN|OUTSIDE|NOT|FULL)\\b");

    private static LateBridges object;
    private static int calls;

    public static void main(String[] args) throws Exception {
        List<String> lines = Files.readAllLines(Path.of("README.md"));
        shownCalls(lines);
        tableOfCalls(lines);
        tableOfRefusals(lines);
        tableOfTests(lines);
        CHECK.end();
    }

    private static void shownCalls(List<String> lines) throws ReflectiveOperationException {
        boolean shown = false;
        Set<String> called = new TreeSet<>();
        for (String line : lines) {
            if (line.startsWith("```")) {
                shown = line.equals("```java");
            } else if (shown) {
                shownLine(line, called);
            }
        }
        for (Method m : face()) {
            CHECK.holds("README.md does not show " + m.getName(), called.contains(m.getName()));
        }
        CHECK.holds("README.md shows " + calls + " calls on one object", calls <= MOST_CALLS);
    }

    private static void shownLine(String line, Set<String> called) throws ReflectiveOperationException {
        Matcher told = TOLD.matcher(line);
        Matcher call = CALLED.matcher(line);
        if (MADE.matcher(line).matches()) {
            object = new LateBridges();
        } else if (told.matches()) {
            called.add("feed");
            for (char letter : told.group(1).toCharArray()) {
                CHECK.holds("a letter is refused: " + line, object.feed(letter) > 0);
                calls++;
            }
        } else if (call.matches()) {
            called.add(call.group(1));
            CHECK.due(line, answer(call.group(1), call.group(2)), number(call.group(3)));
            calls++;
        } else {
            CHECK.holds("a line that this test cannot read: " + line, false);
        }
    }

    private static int answer(String name, String given) throws ReflectiveOperationException {
        String[] words = given.isEmpty() ? new String[0] : given.split(", ");
        Object[] values = new Object[words.length];
        for (int i = 0; i < words.length; i++) {
            boolean isTruth = words[i].equals("true") || words[i].equals("false");
            values[i] = isTruth ? (Object) Boolean.valueOf(words[i]) : (Object) number(words[i].replace("LateBridges.", ""));
        }
        for (Method m : face()) {
            if (m.getName().equals(name)) {
                return (Integer) m.invoke(object, values);
            }
        }
        throw new IllegalStateException("README.md shows " + name + ", which there is not");
    }

    private static Integer number(String word) {
        return NAMED.containsKey(word) ? NAMED.get(word) : Integer.valueOf(word);
    }

    private static List<Method> face() {
        return Arrays.stream(LateBridges.class.getDeclaredMethods())
            .filter(m -> Modifier.isPublic(m.getModifiers())).collect(Collectors.toList());
    }

    /** Each public method has one row, with as many parameters as it takes, and with the refusals of its promise. */
    private static void tableOfCalls(List<String> lines) throws IOException {
        Map<String, Set<String>> due = refusalsOfTheDocument();
        List<String> rows = new ArrayList<>();
        for (String line : lines) {
            Matcher row = CALL_ROW.matcher(line);
            if (row.matches()) {
                int given = row.group(2).isEmpty() ? 0 : row.group(2).split(", ").length;
                rows.add(row.group(1) + " " + given);
                CHECK.holds("refusals of the row " + line + " should be " + due.get(row.group(1)),
                    refusalsIn(row.group(3)).equals(due.get(row.group(1))));
            }
        }
        rows.sort(null);
        List<String> methods = face().stream().map(m -> m.getName() + " " + m.getParameterCount()).sorted()
            .collect(Collectors.toList());
        CHECK.holds("rows of calls are " + rows, rows.equals(methods));
    }

    private static Map<String, Set<String>> refusalsOfTheDocument() throws IOException {
        Map<String, Set<String>> found = new HashMap<>();
        String name = "";
        for (String line : Files.readAllLines(Path.of("../shared/DOC.md"))) {
            Matcher head = Pattern.compile("## Promise \\d+: (\\w+)").matcher(line);
            if (head.matches()) {
                name = head.group(1);
            } else if (line.startsWith("`int " + name + "(")) {
                found.put(name, refusalsIn(line));
            }
        }
        return found;
    }

    private static Set<String> refusalsIn(String text) {
        Set<String> found = new TreeSet<>();
        Matcher m = REFUSAL.matcher(text);
        while (m.find()) {
            found.add(m.group(1));
        }
        return found;
    }

    private static void tableOfRefusals(List<String> lines) {
        int rows = 0;
        for (String line : lines) {
            Matcher row = REFUSAL_ROW.matcher(line);
            if (row.matches()) {
                rows++;
                CHECK.due(row.group(1), NAMED.getOrDefault(row.group(1), 0), Integer.parseInt(row.group(2)));
            }
        }
        CHECK.due("rows of refusals", rows, 4);
    }

    private static void tableOfTests(List<String> lines) throws IOException {
        List<String> rows = new ArrayList<>();
        for (String line : lines) {
            Matcher row = TEST_ROW.matcher(line);
            if (row.matches()) {
                rows.add(row.group(1) + ".java");
            }
        }
        rows.sort(null);
        try (Stream<Path> files = Files.list(Path.of("src/test/java"))) {
            List<String> tests = files.map(f -> f.getFileName().toString()).filter(f -> f.endsWith("Test.java")).sorted()
                .collect(Collectors.toList());
            CHECK.holds("rows of tests are " + rows, rows.equals(tests));
        }
    }
}
