import java.lang.reflect.Constructor;
import java.lang.reflect.Field;
import java.lang.reflect.Method;
import java.lang.reflect.Modifier;
import java.util.Arrays;
import java.util.TreeSet;

/** The public face is the document's, and nothing else can be seen of the class. */
public final class FaceTest {
    private static final String[] MEMBERS = {
        "public static final int NONE", "public static final int UNKNOWN", "public static final int OUTSIDE",
        "public static final int FULL", "public static final int STATE", "public QueryTexts()",
        "public int feed(int,long)", "public int read()", "public int lenient()", "public int dropped(int)",
        "public int node(int,int) throws java.lang.ArrayIndexOutOfBoundsException",
        "public int sign(int,int,int) throws java.lang.ArrayIndexOutOfBoundsException,java.lang.ClassCastException",
        "public int print()",
        "public int out(int) throws java.lang.NullPointerException,java.lang.ArrayIndexOutOfBoundsException",
        "public int word(int,int,long)", "public int clear(int)", "public int fits(int,int)",
        "public long worth(int,int)", "public long ratio(int,int) throws java.lang.ArithmeticException",
        "public int why(int)", "public int rank(int)",
    };

    public static void main(String[] args) {
        Due due = new Due();
        TreeSet<String> seen = new TreeSet<>();
        for (Field f : QueryTexts.class.getDeclaredFields()) {
            note(seen, f.getModifiers(), f.toString());
        }
        for (Constructor<?> c : QueryTexts.class.getDeclaredConstructors()) {
            note(seen, c.getModifiers(), c.toString());
        }
        for (Method m : QueryTexts.class.getDeclaredMethods()) {
            note(seen, m.getModifiers(), m.toString());
        }
        due.same("the face", seen.toString(), new TreeSet<>(Arrays.asList(MEMBERS)).toString());
        due.same("the class", Modifier.toString(QueryTexts.class.getModifiers()), "public final");
        for (Class<?> inner : QueryTexts.class.getDeclaredClasses()) {
            due.hold(inner + " is static and not public",
                Modifier.isStatic(inner.getModifiers()) && !Modifier.isPublic(inner.getModifiers()));
        }
        due.same("NONE", QueryTexts.NONE, -1);
        due.same("UNKNOWN", QueryTexts.UNKNOWN, -101);
        due.same("OUTSIDE", QueryTexts.OUTSIDE, -102);
        due.same("FULL", QueryTexts.FULL, -103);
        due.same("STATE", QueryTexts.STATE, -104);
        due.end();
    }

    private static void note(TreeSet<String> seen, int modifiers, String text) {
        if (!Modifier.isPrivate(modifiers)) {
            seen.add(text.replace("QueryTexts.", ""));
        }
    }
}
