import java.io.IOException;
import java.lang.reflect.Method;
import java.nio.file.Files;
import java.nio.file.Path;
import java.util.Map;
import java.util.Set;
import java.util.TreeMap;
import java.util.TreeSet;
import java.util.regex.Matcher;
import java.util.regex.Pattern;
import java.util.stream.Stream;

/** What README.md says is so: each line of its examples is run, and it names all calls, findings, tests. */
public final class ReadmeTest {
    private static final String MADE = "ThinBodies x = new ThinBodies();";
    private static final Pattern BLOCK = Pattern.compile("(?s)```java\n(.*?)```");
    private static final Pattern CALL = Pattern.compile("x\\.(\\w+)\\((.*)\\); +// (-?\\d+): .+");
    private static final Pattern FACE = Pattern.compile("(?m)^    public (?:int|long) (\\w+)\\((.*)\\);$");

    public static void main(String[] args) throws IOException, ReflectiveOperationException {
        Path root = Path.of(System.getProperty("thinbodies.root", "."));
        String page = Files.readString(root.resolve("README.md"));
        examples(page);
        text(page);
        calls(page, Files.readString(root.resolve("../shared/DOC.md")));
        findings(page);
        tests(page, root.resolve("src/test/java"));
        Checks.end();
    }

    private static void examples(String page) throws ReflectiveOperationException {
        int blocks = 0;
        Matcher block = BLOCK.matcher(page);
        while (block.find()) {
            blocks++;
            example(block.group(1).split("\n"));
        }
        Checks.due("README.md has examples", blocks > 0 ? 1 : 0, 1);
    }

    private static void example(String[] lines) throws ReflectiveOperationException {
        ThinBodies x = new ThinBodies();
        Checks.due("an example makes its object: " + lines[0], lines[0].equals(MADE) ? 1 : 0, 1);
        for (int i = 1; i < lines.length; i++) {
            Matcher call = CALL.matcher(lines[i]);
            if (call.matches()) {
                Checks.due(lines[i], told(x, call.group(1), call.group(2)), Long.parseLong(call.group(3)));
            } else {
                Checks.fail("no call with its answer: " + lines[i]);
            }
        }
    }

    private static long told(ThinBodies x, String name, String numbers) throws ReflectiveOperationException {
        String[] given = numbers.isEmpty() ? new String[0] : numbers.split(", ");
        for (Method on : ThinBodies.class.getMethods()) {
            if (on.getName().equals(name) && on.getParameterCount() == given.length) {
                Object[] with = new Object[given.length];
                for (int i = 0; i < given.length; i++) {
                    boolean wide = on.getParameterTypes()[i] == long.class;
                    with[i] = wide ? (Object) Long.decode(given[i]) : (Object) Integer.decode(given[i]);
                }
                return ((Number) on.invoke(x, with)).longValue();
            }
        }
        Checks.fail("no such call: " + name + "(" + numbers + ")");
        return Long.MIN_VALUE;
    }

    /** The text that stands as an example among the words has no fault, and all its items are read. */
    private static void text(String page) {
        Set<String> texts = named(page, "such as `(.*?)`");
        Checks.due("README.md has a text", texts.size(), 1);
        for (String text : texts) {
            Checks.due(text, Checks.read(new ThinBodies(), text), text.split(";").length);
        }
    }

    /** Each call stands ahead of a table's row, with the document's names of what it is given. */
    private static void calls(String page, String document) {
        Set<String> due = new TreeSet<>();
        Matcher face = FACE.matcher(document);
        while (face.find()) {
            due.add(face.group(1) + "(" + face.group(2).replaceAll("(int|long) ", "") + ")");
        }
        same("calls", named(page, "(?m)^\\| `(\\w+\\(.*?\\))` \\| "), due);
    }

    private static void findings(String page) {
        Map<String, Integer> due = new TreeMap<>();
        due.put("BEYOND", Checks.BEYOND);
        due.put("FULL", Checks.FULL);
        due.put("KIND", Checks.KIND);
        due.put("NONE", Checks.NONE);
        due.put("STATE", Checks.STATE);
        due.put("MISSING", Checks.MISSING);
        due.put("SIZE", Checks.SIZE);
        Set<String> rows = new TreeSet<>();
        for (Map.Entry<String, Integer> finding : due.entrySet()) {
            int which = Checks.BEYOND - finding.getValue();
            rows.add(finding.getValue() + " | " + finding.getKey() + " | " + which);
        }
        same("findings", named(page, "(?m)^\\| (-\\d+ \\| \\w+ \\| \\d+) \\| "), rows);
    }

    private static void tests(String page, Path own) throws IOException {
        Set<String> due = new TreeSet<>();
        try (Stream<Path> files = Files.list(own)) {
            files.map(file -> file.getFileName().toString()).filter(name -> name.endsWith("Test.java"))
                .forEach(name -> due.add(name.replace(".java", "")));
        }
        same("tests", named(page, "(?m)^\\| (\\w+Test) \\| "), due);
    }

    private static Set<String> named(String page, String pattern) {
        Set<String> all = new TreeSet<>();
        Matcher m = Pattern.compile(pattern).matcher(page);
        while (m.find()) {
            all.add(m.group(1));
        }
        return all;
    }

    private static void same(String what, Set<String> named, Set<String> due) {
        Checks.due("README.md names " + named + ", " + what + " are " + due, named.equals(due) ? 1 : 0, 1);
    }
}
