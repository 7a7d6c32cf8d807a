import java.io.IOException;
import java.lang.reflect.Member;
import java.lang.reflect.Method;
import java.lang.reflect.Modifier;
import java.nio.file.Files;
import java.nio.file.Path;
import java.util.HashSet;
import java.util.List;
import java.util.Set;
import java.util.TreeSet;
import java.util.regex.Matcher;
import java.util.regex.Pattern;

/** The rules of LANGUAGE.md that a plain look at the source and at the class can tell. */
public final class LanguageTest {
    private static final Path SOURCE = Path.of("src/main/java/CradlePairs.java");
    private static final List<String> FORBIDDEN = List.of("\\bthrow\\b", "\\btry\\b", "\\bcatch\\b", "\\bsynchronized\\b",
        "\\bassert\\b", "->", "::", "\\bpackage\\b", "\\bprotected\\b", "Exact\\(", "\\bhashCode\\b", "\\btoString\\b",
        "\\bRandom\\b", "\\bThread\\b", "currentTimeMillis", "nanoTime", "\\bstatic \\{");
    private static final Set<String> FACE = Set.of("feed", "back", "read", "place", "speaker", "word", "say", "pass", "hire",
        "set", "minutes", "undo", "who", "soon", "best", "together", "even", "ways", "waking", "ring", "reach", "slopes",
        "hangs", "scale", "calm", "couples", "cheapest", "slopeIn", "year", "tell", "forget", "rows", "listen", "hold",
        "restore", "count");

    /** Comments and texts in quotes are no code. */
    private static String code() throws IOException {
        String s = Files.readString(SOURCE);
        return s.replaceAll("(?s)/\\*.*?\\*/", "").replaceAll("//[^\n]*", "").replaceAll("\"[^\"\n]*\"", "\"\"");
    }

    private static void words(String code) {
        for (String word : FORBIDDEN) {
            Matcher m = Pattern.compile(word).matcher(code);
            Due.due("rule 6, 13: " + word, m.find(), false);
        }
        Matcher imports = Pattern.compile("import ([^;]*);").matcher(code);
        while (imports.find()) {
            Due.due("rule 4: " + imports.group(1), imports.group(1).equals("java.util.Arrays"), true);
        }
    }

    /** Methods as the layout shows them: from a line that ends a head to the brace in its column. */
    private static void methods(String code) {
        Matcher m = Pattern.compile("(?m)^( {4}| {8})(?! )[^=;\n]*\\(([^)\n]*)\\) \\{\n((?:.*\n)*?)\\1\\}").matcher(code);
        int found = 0;
        while (m.find()) {
            found++;
            String head = m.group(0).substring(0, m.group(0).indexOf('\n')).trim();
            Due.due("rule 11, lines of " + head, m.group(3).lines().count() <= 60, true);
            Due.due("rule 11, parameters of " + head, m.group(2).split(",").length <= 7, true);
        }
        Due.due("methods are found at all", found > 100, true);
        Matcher classes = Pattern.compile("\\bclass \\w+ \\{").matcher(code);
        int number = 0;
        while (classes.find()) {
            number++;
        }
        Due.due("rule 11, classes", number <= 12, true);
    }

    private static void face() {
        Set<String> open = new TreeSet<>();
        for (Method m : CradlePairs.class.getDeclaredMethods()) {
            Due.due("rule 1, " + m.getName(), isPublic(m) || Modifier.isPrivate(m.getModifiers()), true);
            if (isPublic(m)) {
                open.add(m.getName());
            } else {
                Due.due("rule 1, name of " + m.getName(), FACE.contains(m.getName()), false);
            }
        }
        Due.due("rule 1, the face", open.equals(new HashSet<>(FACE)), true);
        Due.due("rule 1, final", Modifier.isFinal(CradlePairs.class.getModifiers()), true);
        for (Class<?> inside : CradlePairs.class.getDeclaredClasses()) {
            Due.due("rule 2, " + inside, Modifier.isStatic(inside.getModifiers()), true);
            Due.due("rule 11, fields of " + inside, fields(inside) <= 20, true);
            for (Method m : inside.getDeclaredMethods()) {
                Due.due("rule 1, name of " + m, FACE.contains(m.getName()), false);
            }
        }
        Due.due("rule 11, fields", fields(CradlePairs.class) <= 20, true);
    }

    private static boolean isPublic(Member m) {
        return Modifier.isPublic(m.getModifiers());
    }

    private static int fields(Class<?> c) {
        int number = 0;
        for (var f : c.getDeclaredFields()) {
            boolean fixed = Modifier.isStatic(f.getModifiers());
            Due.due("rule 5, " + f, !fixed || Modifier.isFinal(f.getModifiers()), true);
            number += fixed ? 0 : 1;
        }
        return number;
    }

    public static void main(String[] args) throws IOException {
        String code = code();
        words(code);
        methods(code);
        face();
        Due.end("LanguageTest");
    }
}
