import java.lang.reflect.InvocationTargetException;
import java.lang.reflect.Method;
import java.lang.reflect.Modifier;
import java.util.Map;
import java.util.TreeMap;

/** One case of a promise: a new object, and what is due from it. */
final class Case {
    final QueryTexts x = new QueryTexts();
    private final Due due;

    private Case(Due due) {
        this.due = due;
    }

    /** Runs each static method of a test that takes a Case, with a new object; its name is the case's. */
    static void runAll(Class<?> test) {
        Due due = new Due();
        Map<String, Method> cases = new TreeMap<>();
        for (Method m : test.getDeclaredMethods()) {
            Class<?>[] takes = m.getParameterTypes();
            if (Modifier.isStatic(m.getModifiers()) && !m.isSynthetic() && takes.length == 1 && takes[0] == Case.class) {
                cases.put(m.getName(), m);
            }
        }
        due.hold(test.getSimpleName() + " has cases", !cases.isEmpty());
        for (Method m : cases.values()) {
            due.begin(test.getSimpleName() + ", " + m.getName());
            runOne(due, m);
        }
        System.out.println(test.getSimpleName() + ": " + cases.size() + " cases");
        due.end();
    }

    private static void runOne(Due due, Method m) {
        try {
            m.setAccessible(true);
            m.invoke(null, new Case(due));
        } catch (InvocationTargetException e) {
            due.hold("it ends without " + e.getCause(), false);
        } catch (IllegalAccessException e) {
            due.hold("it can be run: " + e, false);
        }
    }

    /** The same case with another new object. */
    Case anew() {
        return new Case(due);
    }

    void same(String call, long got, long want) {
        due.same(call, got, want);
    }

    void same(String call, String got, String want) {
        due.same(call, got, want);
    }

    /** The answer, or the exception's name behind throws. */
    void told(String call, Due.Call ask, String want) {
        due.told(call, ask, want);
    }

    void hold(String claim, boolean holds) {
        due.hold(claim, holds);
    }

    void feeds(String text) {
        Due.feedText(x, text);
    }

    void reads(String text, long nodes) {
        due.same("read() of '" + text + "'", Due.readText(x, text), nodes);
    }

    void wrongAt(String text, int place) {
        due.same("read() of '" + text + "'", Due.readText(x, text), -200 - place);
    }

    /** lenient() of a text: its answer, and the places of the bytes dropped, in order. */
    void lenient(String text, long nodes, String dropped) {
        due.same("lenient() of '" + text + "'", Due.lenientText(x, text), nodes);
        due.same("dropped of '" + text + "'", Due.droppedOf(x), dropped);
    }

    void prints(String want) {
        due.same("print() for '" + want + "'", x.print(), want.length());
        due.same("the text printed", Due.printed(x), want);
    }

    /** The seven answers of node() for one NODE. */
    void node(int k, String want) {
        due.same("node " + k, Due.nodeOf(x, k), want);
    }

    void words(int document, int field, String words) {
        Due.addWords(x, document, field, words);
    }
}
