import java.lang.reflect.Method;
import java.util.Set;
import java.util.TreeMap;
import java.util.TreeSet;

/** Runs the tests of a class: its methods without arguments that bear a promise's number first, as in p07_wordBeyond. */
final class Each {
    private Each() {
    }

    /** Each promise from the one number to the other must have a test. */
    static void run(Class<?> tests, int from, int to) throws ReflectiveOperationException {
        TreeMap<String, Method> byName = new TreeMap<>();
        Set<Integer> promises = new TreeSet<>();
        for (Method m : tests.getDeclaredMethods()) {
            if (m.getName().matches("p\\d\\d_\\w+") && m.getParameterCount() == 0) {
                byName.put(m.getName(), m);
                promises.add(Integer.parseInt(m.getName().substring(1, 3)));
            }
        }
        for (Method m : byName.values()) {
            Due.inTest(m.getName());
            m.setAccessible(true);
            m.invoke(null);
        }
        Due.inTest(tests.getSimpleName());
        for (int promise = from; promise <= to; promise++) {
            Due.due("a test of promise " + promise, promises.contains(promise), true);
        }
        Due.end(tests.getSimpleName() + ", " + byName.size() + " tests");
    }
}
