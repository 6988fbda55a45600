import java.lang.reflect.Method;
import java.nio.charset.StandardCharsets;
import java.nio.file.Files;
import java.nio.file.Path;
import java.util.regex.Matcher;
import java.util.regex.Pattern;

/** README.md tells the class as it is: its example answers so, and each call has a row with its refusals. */
public final class ReadmeTest {
    private static final Check CHECK = new Check("ReadmeTest");
    private static final String[] REFUSALS = {"BAD", "FULL", "NONE", "-9", "-11", "-12", "-13", "-14", "-15", "-100"};

    public static void main(String[] args) throws Exception {
        String page = read("README.md");
        String document = read("../shared/DOC.md");
        example(page);
        calls(page, document);
        tests(page);
        CHECK.end();
    }

    private static String read(String path) throws Exception {
        return Files.readString(Path.of(path), StandardCharsets.UTF_8);
    }

    private static void example(String page) throws Exception {
        int from = page.indexOf("```java\n");
        int to = page.indexOf("```\n", from + 1);
        CHECK.isTrue("there is an example", from >= 0 && to > from);
        PaintedWalls walls = new PaintedWalls();
        Pattern told = Pattern.compile("walls\\.(\\w+)\\(([^)]*)\\); +// (-?\\d+)(: .+)?");
        String[] lines = page.substring(from + 8, to).split("\n");
        CHECK.due("the object is made", 0, lines[0].compareTo("PaintedWalls walls = new PaintedWalls();"));
        int asked = 0;
        for (int i = 1; i < lines.length; i++) {
            if (lines[i].isEmpty()) { continue; }
            Matcher m = told.matcher(lines[i]);
            if (!m.matches()) {
                CHECK.isTrue("a call and its answer: " + lines[i], false);
                continue;
            }
            CHECK.due(lines[i], Long.parseLong(m.group(3)), answer(walls, m.group(1), m.group(2)));
            asked++;
        }
        CHECK.isTrue("the example asks much", asked >= 20);
    }

    private static long answer(PaintedWalls walls, String call, String told) throws Exception {
        String[] numbers = told.isEmpty() ? new String[0] : told.split(", ");
        for (Method method : PaintedWalls.class.getMethods()) {
            if (!method.getName().equals(call) || method.getDeclaringClass() != PaintedWalls.class) { continue; }
            Object[] arguments = new Object[numbers.length];
            for (int i = 0; i < numbers.length; i++) {
                boolean isLong = method.getParameterTypes()[i] == long.class;
                long v = Long.decode(numbers[i].replace("L", ""));
                if (isLong) { arguments[i] = v; } else { arguments[i] = Math.toIntExact(v); }
            }
            return ((Number) method.invoke(walls, arguments)).longValue();
        }
        throw new IllegalArgumentException("no call " + call);
    }

    /** Each promise's call, with the names that the face gives its numbers, and the refusals its promise names. */
    private static void calls(String page, String document) {
        Matcher m = Pattern.compile("## Promise \\d+: (\\w+)\n\n`(?:int|long) \\w+\\(([^)]*)\\)`: ([^\n]*)").matcher(document);
        int calls = 0;
        while (m.find()) {
            String call = m.group(1) + "(" + m.group(2).replaceAll("(int|long) ", "") + ")";
            Matcher row = Pattern.compile("(?m)^\\| `" + Pattern.quote(call) + "` \\| ([^|]+) \\| ([^|]*)\\|$").matcher(page);
            boolean isThere = row.find();
            CHECK.isTrue("README.md has a row for " + call, isThere);
            if (isThere) {
                for (String refusal : REFUSALS) {
                    Pattern alone = Pattern.compile("(?<![\\w-])" + refusal + "(?!\\w)");
                    CHECK.due(call + " refuses by " + refusal, isIn(alone, promised(call, m.group(3))), isIn(alone, row.group(2)));
                }
                CHECK.isTrue(call + " has one row", !row.find());
            }
            calls++;
        }
        CHECK.due("promises of a call", 46, calls);
    }

    /** act() is refused by what its body in the document's Terms says; alterRow() as row(). */
    private static String promised(String call, String promise) {
        if (call.startsWith("act(")) { return promise + " -15"; }
        return promise;
    }

    private static int isIn(Pattern refusal, String text) {
        return refusal.matcher(text).find() ? 1 : 0;
    }

    private static void tests(String page) throws Exception {
        try (var files = Files.newDirectoryStream(Path.of("src/test/java"), "*Test.java")) {
            for (Path file : files) {
                String test = file.getFileName().toString().replace(".java", "");
                CHECK.isTrue("README.md names " + test, page.contains("\n| `" + test + "` |"));
            }
        }
    }
}
