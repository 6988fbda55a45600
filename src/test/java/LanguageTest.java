import java.lang.reflect.Method;
import java.lang.reflect.Modifier;
import java.nio.charset.StandardCharsets;
import java.nio.file.Files;
import java.nio.file.Path;
import java.util.Arrays;
import java.util.Random;
import java.util.TreeSet;
import java.util.regex.Matcher;
import java.util.regex.Pattern;

/** The face is the document's, the source keeps to LANGUAGE.md where that can be seen, and no call throws. */
public final class LanguageTest {
    private static final Check CHECK = new Check("LanguageTest");

    public static void main(String[] args) throws Exception {
        face();
        source();
        sizes();
        wildCalls();
        CHECK.end();
    }

    private static void face() throws Exception {
        String document = Files.readString(Path.of("../shared/DOC.md"), StandardCharsets.UTF_8);
        TreeSet<String> want = new TreeSet<>();
        Matcher m = Pattern.compile("    public (int|long) (\\w+)\\(([^)]*)\\);").matcher(document);
        while (m.find()) {
            StringBuilder types = new StringBuilder();
            for (String one : m.group(3).isEmpty() ? new String[0] : m.group(3).split(", ")) {
                types.append(' ').append(one.split(" ")[0]);
            }
            want.add(m.group(1) + " " + m.group(2) + types);
        }
        TreeSet<String> got = new TreeSet<>();
        TreeSet<String> names = new TreeSet<>();
        for (Method method : PaintedWalls.class.getDeclaredMethods()) {
            if (method.isSynthetic()) { continue; }
            if (Modifier.isPublic(method.getModifiers())) {
                StringBuilder types = new StringBuilder();
                for (Class<?> type : method.getParameterTypes()) { types.append(' ').append(type.getName()); }
                got.add(method.getReturnType().getName() + " " + method.getName() + types);
                names.add(method.getName());
            } else {
                CHECK.isTrue(method + " is private", Modifier.isPrivate(method.getModifiers()));
            }
        }
        CHECK.due("methods of the face", 46, want.size());
        CHECK.isTrue("the face: " + want + " and " + got, want.equals(got));
        CHECK.isTrue("final", Modifier.isFinal(PaintedWalls.class.getModifiers()));
        for (Class<?> inside : PaintedWalls.class.getDeclaredClasses()) {
            CHECK.isTrue(inside + " is static", Modifier.isStatic(inside.getModifiers()));
            for (Method method : inside.getDeclaredMethods()) {
                CHECK.isTrue(method + " has a name of its own", !names.contains(method.getName()));
                CHECK.isTrue(method + " is not public", !Modifier.isPublic(method.getModifiers()));
            }
        }
        for (Method method : PaintedWalls.class.getDeclaredMethods()) {
            CHECK.isTrue(method + " has a name of its own", Modifier.isPublic(method.getModifiers()) || !names.contains(method.getName()));
            CHECK.isTrue(method + " takes seven at most", method.getParameterCount() <= 7);
        }
    }

    private static void source() throws Exception {
        String source = Files.readString(Path.of("src/main/java/PaintedWalls.java"), StandardCharsets.UTF_8);
        String code = source.replaceAll("(?s)/\\*.*?\\*/", "").replaceAll("//[^\n]*", "");
        for (String word : new String[] {"throw", "try", "catch", "synchronized", "assert", "package", "lambda", "import", "float", "double"}) {
            CHECK.isTrue("no " + word, !Pattern.compile("\\b" + word + "\\b").matcher(code).find());
        }
        for (String sign : new String[] {"->", "::", "Exact(", "@"}) { CHECK.isTrue("no " + sign, !code.contains(sign)); }
        for (int i = 0; i < source.length(); i++) {
            if (source.charAt(i) > 126) { CHECK.isTrue("sign " + i + " is plain", false); }
        }
        Matcher stat = Pattern.compile("\\bstatic\\b(?! final| class)([^;{]*)[;{]").matcher(code);
        while (stat.find()) { CHECK.isTrue("static" + stat.group(1) + " is a method", stat.group(1).contains("(")); }
    }

    /** Rule 11: classes, fields beside constants, parameters, lines of a method. */
    private static void sizes() throws Exception {
        CHECK.isTrue("twelve classes at most", PaintedWalls.class.getDeclaredClasses().length < 12);
        fields(PaintedWalls.class);
        for (Class<?> inside : PaintedWalls.class.getDeclaredClasses()) {
            fields(inside);
            for (Method method : inside.getDeclaredMethods()) {
                CHECK.isTrue(method + " takes seven at most", method.getParameterCount() <= 7);
            }
        }
        int begun = 0;
        int at = 0;
        String end = "";
        for (String line : Files.readAllLines(Path.of("src/main/java/PaintedWalls.java"))) {
            at++;
            boolean isHead = line.matches("( {4}){1,2}[a-zA-Z].*\\) \\{") && !line.matches(" *(if|for|while|switch|else)\\b.*");
            if (isHead && begun == 0) {
                begun = at;
                end = line.substring(0, line.length() - line.stripLeading().length()) + "}";
            } else if (begun > 0 && line.equals(end)) {
                CHECK.isTrue("the method at line " + begun + " has sixty lines at most", at - begun < 60);
                begun = 0;
            }
        }
        CHECK.due("every method has an end", 0, begun);
    }

    private static void fields(Class<?> one) {
        int count = 0;
        for (java.lang.reflect.Field field : one.getDeclaredFields()) {
            if (Modifier.isStatic(field.getModifiers())) {
                CHECK.isTrue(field + " is final", Modifier.isFinal(field.getModifiers()));
            } else {
                count++;
            }
        }
        CHECK.isTrue(one + " has twenty fields at most", count <= 20);
    }

    /** Any arguments in any state: what is thrown ends this test. */
    private static void wildCalls() throws Exception {
        Method[] methods = Arrays.stream(PaintedWalls.class.getDeclaredMethods())
            .filter(m -> Modifier.isPublic(m.getModifiers()))
            .sorted((a, b) -> a.getName().compareTo(b.getName()))
            .toArray(Method[]::new);
        int[] edges = {-1, 0, 1, 2, 3, 4, 5, 7, 8, 9, 10, 11, 31, 60, 99, 100, 99999, Integer.MIN_VALUE, Integer.MAX_VALUE};
        Random random = new Random(5);
        for (int run = 0; run < 60; run++) {
            PaintedWalls x = new PaintedWalls();
            for (int i = 0; i < run % 9; i++) { x.name(i % 6, random.nextInt(10), random.nextInt(100), random.nextInt(10)); }
            for (int call = 0; call < 500; call++) {
                Method method = methods[random.nextInt(methods.length)];
                Object[] arguments = new Object[method.getParameterCount()];
                for (int i = 0; i < arguments.length; i++) {
                    int v = random.nextInt(9) == 0 ? random.nextInt() : edges[random.nextInt(edges.length)];
                    if (method.getParameterTypes()[i] == long.class) { arguments[i] = random.nextLong(); } else { arguments[i] = v; }
                }
                method.invoke(x, arguments);
            }
        }
        CHECK.isTrue("nothing was thrown", true);
    }
}
