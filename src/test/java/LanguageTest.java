import java.io.IOException;
import java.lang.reflect.Constructor;
import java.lang.reflect.Field;
import java.lang.reflect.Method;
import java.lang.reflect.Modifier;
import java.nio.file.Files;
import java.nio.file.Path;
import java.util.ArrayList;
import java.util.List;
import java.util.Set;
import java.util.TreeSet;
import java.util.regex.Matcher;
import java.util.regex.Pattern;

/** The face of the document, and those rules of LANGUAGE.md that can be seen in the text of the program. */
public final class LanguageTest {
    private static final Checker CHECK = new Checker("LanguageTest");
    private static final Path SOURCE = Path.of("src/main/java/PinnaceView.java");

    private LanguageTest() {
    }

    /** The argument is the folder that has DOC.md. */
    public static void main(String[] args) throws IOException {
        String source = withoutCommentsAndTexts(Files.readString(SOURCE));
        face(source, Files.readString(Path.of(args.length > 0 ? args[0] : "../shared").resolve("DOC.md")));
        visible();
        namesOfPrivateOnes();
        words(source);
        methods(source);
        CHECK.end();
    }

    private static String withoutCommentsAndTexts(String text) {
        return text.replaceAll("(?s)/\\*.*?\\*/", " ").replaceAll("//[^\n]*", " ").replaceAll("\"[^\"\n]*\"", "\"\"");
    }

    private static void face(String source, String document) {
        String flat = source.replaceAll("\\s+", " ");
        int from = document.indexOf("```java");
        String face = document.substring(from, document.indexOf("```", from + 7));
        int found = 0;
        Matcher line = Pattern.compile("public ([^;{]*)[;{]").matcher(face);
        while (line.find()) {
            found++;
            CHECK.same("rule 1: " + line.group().trim(),
                    flat.contains(line.group().replaceAll("[;{]", "").trim() + " {"), true);
        }
        Matcher open = Pattern.compile("\\bpublic\\b").matcher(source);
        int open1 = 0;
        while (open.find()) {
            open1++;
        }
        CHECK.same("rule 1: how many are public", open1, found);
        CHECK.same("44 promises less the constructor, and both", found, 45);
    }

    private static void visible() {
        for (Field field : PinnaceView.class.getDeclaredFields()) {
            CHECK.same("rule 1: " + field.getName() + " is private", Modifier.isPrivate(field.getModifiers()), true);
        }
        for (Method method : PinnaceView.class.getDeclaredMethods()) {
            int bits = method.getModifiers();
            boolean isFine = Modifier.isPublic(bits) || Modifier.isPrivate(bits) || method.isSynthetic();
            CHECK.same("rule 1: " + method.getName(), isFine, true);
        }
        Constructor<?>[] constructors = PinnaceView.class.getDeclaredConstructors();
        CHECK.same("rule 1: one constructor", constructors.length, 1);
        List<Class<?>> classes = new ArrayList<>(List.of(PinnaceView.class.getDeclaredClasses()));
        CHECK.same("rule 11: not too many classes", classes.size() <= 12, true);
        classes.add(PinnaceView.class);
        for (Class<?> one : classes) {
            int fields = 0;
            for (Field field : one.getDeclaredFields()) {
                boolean isStatic = Modifier.isStatic(field.getModifiers());
                fields += isStatic ? 0 : 1;
                CHECK.same("rule 5: " + field, !isStatic || Modifier.isFinal(field.getModifiers()), true);
            }
            CHECK.same("rule 11: fields of " + one.getName(), fields <= 20, true);
            for (Method method : one.getDeclaredMethods()) {
                CHECK.same("rule 11: parameters of " + method, method.getParameterCount() <= 7, true);
            }
        }
    }

    private static void namesOfPrivateOnes() {
        Set<String> open = new TreeSet<>();
        for (Method method : PinnaceView.class.getDeclaredMethods()) {
            if (Modifier.isPublic(method.getModifiers())) {
                open.add(method.getName());
            }
        }
        List<Class<?>> classes = new ArrayList<>(List.of(PinnaceView.class.getDeclaredClasses()));
        classes.add(PinnaceView.class);
        for (Class<?> one : classes) {
            for (Method method : one.getDeclaredMethods()) {
                boolean isFaces = one == PinnaceView.class && Modifier.isPublic(method.getModifiers());
                CHECK.same("rule 1: the name of " + method, !isFaces && open.contains(method.getName()), false);
            }
        }
    }

    private static void words(String source) {
        Matcher imports = Pattern.compile("import ([^;]*);").matcher(source);
        while (imports.find()) {
            CHECK.same("rule 4: " + imports.group(1),
                    imports.group(1).matches("java\\.util\\.(ArrayList|List|Arrays)"), true);
        }
        String[] forbidden = {"\\btry\\b", "\\bcatch\\b", "\\bfinally\\b", "\\bsynchronized\\b", "\\bassert\\b", "->", "::",
            "\\bprotected\\b", "\\bSystem\\.(?!arraycopy)", "Exact\\(", "\\bequals\\b", "\\bhashCode\\b", "\\btoString\\b",
            "\\bvar\\b", "\\bThread\\b", "\\bpackage\\b", "\\bObject\\b", "while \\(true\\)", "for \\(;;\\)",
            "\"\" \\+", "\\+ \"\""};
        for (String word : forbidden) {
            CHECK.same("no " + word, Pattern.compile(word).matcher(source).find(), false);
        }
        Matcher thrown = Pattern.compile("throw new (\\w+)").matcher(source);
        while (thrown.find()) {
            CHECK.same("rule 6: " + thrown.group(1), thrown.group(1).matches(
                    "IllegalStateException|IllegalArgumentException|IndexOutOfBoundsException"), true);
        }
    }

    /** Methods are short: from a line that opens one to the line that closes it, as far to the right. */
    private static void methods(String source) {
        String[] lines = source.split("\n");
        for (int i = 0; i < lines.length; i++) {
            Matcher opens = Pattern.compile("^( {4}| {8})[^ =][^=;]*\\)[^=;]*\\{$").matcher(lines[i]);
            if (opens.find()) {
                int end = i;
                while (end < lines.length && !lines[end].equals(opens.group(1) + "}")) {
                    end++;
                }
                CHECK.same("rule 11: as short as can be, line " + (i + 1), end - i <= 60, true);
            }
        }
    }
}
