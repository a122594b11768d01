import java.lang.reflect.Constructor;
import java.lang.reflect.Field;
import java.lang.reflect.Method;
import java.lang.reflect.Modifier;
import java.util.Arrays;
import java.util.TreeSet;

/** The public face is the document's, word for word, and nothing else of the class can be seen. */
public final class FaceTest {
    private static final String[] FACE = {
        "public static final int DONE",
        "public static final int REFUSED",
        "public static final int FULL",
        "public static final int SYNTAX",
        "public static final int STATE",
        "public static final long NONE",
        "public FlowEquations()",
        "public int type(int)",
        "public int types(long)",
        "public int define(int)",
        "public int drop(int)",
        "public int clock(int,int)",
        "public int input(int,int)",
        "public int check()",
        "public int step(int)",
        "public long value(int)",
        "public int present(int)",
        "public long memory(int,int)",
        "public int info(int)",
    };

    public static void main(String[] args) {
        TreeSet<String> seen = new TreeSet<>();
        TreeSet<String> hiddenMethods = new TreeSet<>();
        TreeSet<String> shownMethods = new TreeSet<>();
        for (Field f : FlowEquations.class.getDeclaredFields()) {
            if (!Modifier.isPrivate(f.getModifiers())) {
                seen.add(plain(f.toString()));
            }
        }
        for (Constructor<?> c : FlowEquations.class.getDeclaredConstructors()) {
            if (!Modifier.isPrivate(c.getModifiers())) {
                seen.add(plain(c.toString()));
            }
        }
        for (Method m : FlowEquations.class.getDeclaredMethods()) {
            if (Modifier.isPrivate(m.getModifiers())) {
                hiddenMethods.add(m.getName());
            } else {
                seen.add(plain(m.toString()));
                shownMethods.add(m.getName());
            }
        }
        TreeSet<String> wanted = new TreeSet<>(Arrays.asList(FACE));
        if (!seen.equals(wanted)) {
            System.out.println("the face is " + seen + ", due is " + wanted);
        }
        Due.due("the face is the document's", seen.equals(wanted) ? 1 : 0, 1);
        Due.due("the class is public and final",
            FlowEquations.class.getModifiers(), Modifier.PUBLIC | Modifier.FINAL);
        hiddenMethods.retainAll(shownMethods);
        Due.due("private methods that bear a public one's name", hiddenMethods.size(), 0);
        for (Class<?> inner : FlowEquations.class.getDeclaredClasses()) {
            Due.due(inner + " is static", inner.getModifiers() & Modifier.STATIC, Modifier.STATIC);
        }
        constants();
        Due.end();
    }

    private static void constants() {
        Due.due("DONE", FlowEquations.DONE, 0);
        Due.due("REFUSED", FlowEquations.REFUSED, -1);
        Due.due("FULL", FlowEquations.FULL, -2);
        Due.due("SYNTAX", FlowEquations.SYNTAX, -3);
        Due.due("STATE", FlowEquations.STATE, -4);
        Due.due("NONE", FlowEquations.NONE, -1000000000000L);
    }

    private static String plain(String member) {
        return member.replace("FlowEquations.", "");
    }
}
