import java.io.IOException;
import java.lang.reflect.Constructor;
import java.lang.reflect.Field;
import java.lang.reflect.Method;
import java.lang.reflect.Modifier;
import java.nio.file.Files;
import java.nio.file.Path;
import java.util.ArrayList;
import java.util.List;
import java.util.regex.Matcher;
import java.util.regex.Pattern;

/** The rules of LANGUAGE.md that can be seen in the class's text or asked of the class. */
public final class LanguageTest extends Calls {
    private static final String[] NEVER = {
        "\\bpackage\\b", "\\bthrows?\\b", "\\btry\\b", "\\bcatch\\b", "\\bsynchronized\\b", "\\bassert\\b", "->", "::",
        "\\bequals\\(", "\\bhashCode\\b", "\\btoString\\b", "Exact\\(", "\\bstatic \\{", "\\bSystem\\.(?!arraycopy\\()",
        "\\bThread\\b", "\\bimport (?!java\\.util\\.(Arrays|ArrayList|List|Iterator);)", "\\bjava\\.(?!util\\.)", "[^\\x00-\\x7F]",
    };
    private static final int LONGEST_METHOD = 60;
    private static final int MOST_PARAMETERS = 7;
    private static final int MOST_CLASSES = 12;
    private static final int MOST_FIELDS = 20;

    public static void main(String[] args) throws IOException {
        String text = withoutComments(Files.readString(Path.of("src/main/java/FlowEquations.java")));
        for (String never : NEVER) {
            Matcher found = Pattern.compile(never).matcher(text);
            due("rules 1 to 6, 13: '" + never + "'", found.find() ? 1 : 0, 0);
        }
        methodLengths(text);
        List<Class<?>> classes = new ArrayList<>(List.of(FlowEquations.class.getDeclaredClasses()));
        classes.add(FlowEquations.class);
        due("rule 11: some twelve classes", classes.size() <= MOST_CLASSES ? 1 : 0, 1);
        for (Class<?> one : classes) {
            fields(one);
            parameters(one);
            due("rule 2: no classes within " + one, one == FlowEquations.class ? 0 : one.getDeclaredClasses().length, 0);
        }
        Due.end();
    }

    /** Line ends stay, so that lines can be counted. */
    private static String withoutComments(String text) {
        String rest = text.replaceAll("//[^\n]*", "");
        Matcher comment = Pattern.compile("(?s)/\\*.*?\\*/").matcher(rest);
        return comment.replaceAll(found -> found.group().replaceAll("[^\n]", ""));
    }

    /** A method ends at the closing brace that stands as far in as its head. */
    private static void methodLengths(String text) {
        Matcher method = Pattern.compile("(?m)^( +)(?:public|private) [^;={}]*\\([^;={}]*\\) \\{$[\\s\\S]*?^\\1\\}$").matcher(text);
        int methods = 0;
        while (method.find()) {
            methods++;
            int length = method.group().split("\n").length;
            due("rule 11: lines of " + method.group().split("\n")[0].trim(), Math.max(length, LONGEST_METHOD), LONGEST_METHOD);
        }
        due("methods are found", methods > 12 ? 1 : 0, 1);
    }

    private static void fields(Class<?> one) {
        int fields = 0;
        for (Field field : one.getDeclaredFields()) {
            if (Modifier.isStatic(field.getModifiers())) {
                due("rule 5: final is " + field, field.getModifiers() & Modifier.FINAL, Modifier.FINAL);
            } else {
                fields++;
            }
        }
        due("rule 11: some twenty fields of " + one, Math.max(fields, MOST_FIELDS), MOST_FIELDS);
    }

    private static void parameters(Class<?> one) {
        for (Method method : one.getDeclaredMethods()) {
            due("rule 11: parameters of " + method, Math.max(method.getParameterCount(), MOST_PARAMETERS), MOST_PARAMETERS);
        }
        for (Constructor<?> made : one.getDeclaredConstructors()) {
            due("rule 11: parameters of " + made, Math.max(made.getParameterCount(), MOST_PARAMETERS), MOST_PARAMETERS);
        }
    }
}
