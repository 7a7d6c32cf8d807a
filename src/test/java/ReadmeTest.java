import java.io.IOException;
import java.lang.reflect.Method;
import java.lang.reflect.Modifier;
import java.nio.file.Files;
import java.nio.file.Path;
import java.util.regex.Matcher;
import java.util.regex.Pattern;

/** README.md tells how to use the class: its examples are taken from it and answered as it says, promises 1 to 37. */
public final class ReadmeTest {
    private static final Path README = Path.of("README.md");
    private static final Path THIS = Path.of("src/test/java/ReadmeTest.java");
    private static final Pattern BLOCK = Pattern.compile("(?s)```java\n(.*?)```");
    private static final Pattern TAPE = Pattern.compile("tape\\(x, \"([^\"]*)\"\\);");
    private static final Pattern CALL = Pattern.compile("x\\.(\\w+)\\(([^)]*)\\); *// (-?\\d+|true|false)(?:: .*)?");

    private CradlePairs x = new CradlePairs();

    /** As it stands in README.md. */
    static void tape(CradlePairs x, String text) {
        int[] five = new int[5];
        int fed = (text.length() + 19) / 20 * 20;
        for (int at = 0; at < fed; at++) {
            char sign = at < text.length() ? text.charAt(at) : ' ';
            five[at / 4 % 5] = five[at / 4 % 5] << 8 | sign;
            if (at % 20 == 19) {
                x.feed(five[0], five[1], five[2], five[3], five[4]);
            }
        }
        x.back(fed - text.length());
    }

    private static Method named(String name) {
        for (Method m : CradlePairs.class.getMethods()) {
            if (m.getName().equals(name)) {
                return m;
            }
        }
        return null;
    }

    private void call(String line, Matcher m) throws ReflectiveOperationException {
        Method method = named(m.group(1));
        Due.due(line + ": there is such a call", method != null, true);
        if (method == null) {
            return;
        }
        String[] given = m.group(2).isEmpty() ? new String[0] : m.group(2).split(", ");
        Object[] args = new Object[given.length];
        for (int i = 0; i < given.length; i++) {
            boolean isBoolean = method.getParameterTypes()[i] == boolean.class;
            args[i] = isBoolean ? (Object) Boolean.valueOf(given[i]) : Integer.valueOf(given[i]);
        }
        Due.due(line, String.valueOf(method.invoke(x, args)), m.group(3));
    }

    /** Every line of an example must be one that can be tried, or the page could tell what does not hold. */
    private void line(String line) throws ReflectiveOperationException {
        Matcher tape = TAPE.matcher(line);
        Matcher call = CALL.matcher(line);
        if (line.equals("CradlePairs x = new CradlePairs();")) {
            x = new CradlePairs();
        } else if (tape.matches()) {
            tape(x, tape.group(1));
        } else if (call.matches()) {
            call(line, call);
        } else {
            Due.due(line + ": can be looked at", false, true);
        }
    }

    private void blocks(String page) throws IOException, ReflectiveOperationException {
        String own = Files.readString(THIS).replaceAll("\\s", "");
        Matcher block = BLOCK.matcher(page);
        while (block.find()) {
            String code = block.group(1);
            if (code.startsWith("static ")) {
                Due.due("the method of README.md is the one here", own.contains(code.replaceAll("\\s", "")), true);
                continue;
            }
            for (String line : code.split("\n")) {
                line(line);
            }
        }
    }

    /** A call stands in an example (x.who()) or in a sentence (`pass()`). */
    private static void allCalls(String page) {
        for (Method m : CradlePairs.class.getDeclaredMethods()) {
            if (Modifier.isPublic(m.getModifiers())) {
                boolean told = Pattern.compile("(x\\.|`)" + m.getName() + "\\(").matcher(page).find();
                Due.due("README.md tells of " + m.getName(), told, true);
            }
        }
    }

    public static void main(String[] args) throws IOException, ReflectiveOperationException {
        String page = Files.readString(README);
        new ReadmeTest().blocks(page);
        allCalls(page);
        Due.end("ReadmeTest");
    }
}
