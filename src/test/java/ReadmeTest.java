import java.io.IOException;
import java.lang.reflect.Method;
import java.lang.reflect.Modifier;
import java.net.URL;
import java.net.URLClassLoader;
import java.nio.file.Files;
import java.nio.file.Path;
import java.util.regex.Matcher;
import java.util.regex.Pattern;
import javax.tools.JavaCompiler;
import javax.tools.ToolProvider;

/** What README.md tells: its example compiles and answers as it says, and its table of properties holds. */
public final class ReadmeTest {
    private static final Checker CHECK = new Checker("ReadmeTest");
    private static final Path MADE = Path.of("build/readme");

    private ReadmeTest() {
    }

    public static void main(String[] args) throws IOException, ReflectiveOperationException {
        String readme = Files.readString(Path.of("README.md"));
        int from = readme.indexOf("```java") + "```java".length();
        example(readme.substring(from, readme.indexOf("```", from)));
        table(readme);
        calls(readme);
        CHECK.end();
    }

    /** Each line "int name = ..; // number" has to come to that number. */
    private static void example(String lines) throws IOException, ReflectiveOperationException {
        Matcher told = Pattern.compile("int (\\w+) = .*; +// (-?\\d+)\n").matcher(lines);
        StringBuilder got = new StringBuilder();
        StringBuilder due = new StringBuilder();
        while (told.find()) {
            got.append(" + \"").append(told.group(1)).append(" \" + ").append(told.group(1)).append(" + \";\"");
            due.append(told.group(1)).append(' ').append(told.group(2)).append(';');
        }
        CHECK.same("the example tells answers", due.length() > 0, true);
        Files.createDirectories(MADE);
        Path source = MADE.resolve("Example.java");
        Files.writeString(source, "public final class Example { public static String told() {\n" + lines
                + "return \"\"" + got + "; } }\n");
        JavaCompiler compiler = ToolProvider.getSystemJavaCompiler();
        int code = compiler.run(null, null, null, "-cp", System.getProperty("java.class.path"), "-d", MADE.toString(),
                source.toString());
        CHECK.same("the example compiles, code", code, 0);
        if (code == 0) {
            try (URLClassLoader loader = new URLClassLoader(new URL[] {MADE.toUri().toURL()})) {
                Object answer = loader.loadClass("Example").getMethod("told").invoke(null);
                CHECK.same("the example", answer, due.toString());
            }
        }
    }

    private static void table(String readme) {
        String cell = " (-?\\d+) \\|";
        String line = "\\|" + cell + " [A-Z]+ \\|" + cell + cell + cell + " (yes|no) \\|";
        Matcher row = Pattern.compile(line).matcher(readme);
        int property = 0;
        while (row.find()) {
            CHECK.same("the number of a row", Integer.parseInt(row.group(1)), property);
            row(property, Integer.parseInt(row.group(2)), Integer.parseInt(row.group(3)),
                    Integer.parseInt(row.group(4)), row.group(5).equals("yes"));
            property++;
        }
        CHECK.same("rows of the table", property, 14);
    }

    private static void row(int property, int least, int greatest, int first, boolean isInherited) {
        String what = "property " + property;
        PinnaceView v = new PinnaceView();
        int element = v.addElement(0, 0);
        CHECK.same(what + " at first", v.styleOf(element, property), first);
        CHECK.same(what + " least", Checker.thrownBy(() -> v.declare(0, property, least)), null);
        CHECK.same(what + " greatest", Checker.thrownBy(() -> v.declare(0, property, greatest)), null);
        Class<?> refusal = IllegalArgumentException.class;
        CHECK.same(what + " less", Checker.thrownBy(() -> v.declare(0, property, least - 1)), refusal);
        CHECK.same(what + " more", Checker.thrownBy(() -> v.declare(0, property, greatest + 1)), refusal);
        int other = first == greatest ? least : greatest;
        v.declare(0, property, other);
        CHECK.same(what + " in a child", v.styleOf(element, property), isInherited ? other : first);
    }

    /** The README tells of each call of the face. */
    private static void calls(String readme) {
        for (Method method : PinnaceView.class.getDeclaredMethods()) {
            if (Modifier.isPublic(method.getModifiers())) {
                CHECK.same("README tells of " + method.getName(), readme.contains("`" + method.getName() + "`"), true);
            }
        }
    }
}
