import java.io.File;
import java.io.IOException;
import java.lang.reflect.Field;
import java.lang.reflect.Method;
import java.lang.reflect.Modifier;
import java.nio.file.Files;
import java.nio.file.Path;
import java.util.ArrayList;
import java.util.List;
import java.util.TreeSet;
import java.util.regex.Matcher;
import java.util.regex.Pattern;

/** README.md is there, and what it says of the calls, the tests and how to run them is so. */
public final class ReadmeTest extends Calls {
    private static final Pattern CALL = Pattern.compile("x\\.(\\w+)\\((.*?)\\);\\s*// (-?\\d+)(: .*)?");
    private static final Pattern TEST_NAME = Pattern.compile("`(\\w+Test)`");

    public static void main(String[] args) throws IOException, ReflectiveOperationException {
        Path path = Path.of("README.md");
        due("README.md is there", Files.isRegularFile(path) ? 1 : 0, 1);
        if (!Due.anyWrong()) {
            String readme = Files.readString(path);
            exampleAnswers(block(readme, "java"));
            everyCallIsTold(readme);
            wayToRunTheTests(readme);
            everyTestIsNamed(readme);
        }
        Due.end();
    }

    /** The lines between the fences of the one block of that kind. */
    private static List<String> block(String readme, String kind) {
        List<String> found = new ArrayList<>();
        boolean inside = false;
        int blocks = 0;
        for (String row : readme.split("\n")) {
            if (row.equals("```" + kind)) {
                inside = true;
                blocks++;
            } else if (row.startsWith("```")) {
                inside = false;
            } else if (inside) {
                found.add(row);
            }
        }
        due("blocks of " + kind, blocks, 1);
        return found;
    }

    private static void exampleAnswers(List<String> rows) throws ReflectiveOperationException {
        sentence("README.md: behind each call stands what it answers");
        due("a new object first", rows.get(0).equals("FlowEquations x = new FlowEquations();") ? 1 : 0, 1);
        FlowEquations x = new FlowEquations();
        for (String row : rows.subList(1, rows.size())) {
            Matcher call = CALL.matcher(row);
            due("a call with its answer: " + row, call.matches() ? 1 : 0, 1);
            if (call.matches()) {
                due(row, answer(x, call.group(1), call.group(2)), Long.parseLong(call.group(3)));
            }
        }
    }

    private static long answer(FlowEquations x, String name, String arguments) throws ReflectiveOperationException {
        String[] texts = arguments.isEmpty() ? new String[0] : arguments.split(", ");
        for (Method method : FlowEquations.class.getMethods()) {
            if (method.getName().equals(name) && method.getParameterCount() == texts.length) {
                Object[] numbers = new Object[texts.length];
                for (int i = 0; i < texts.length; i++) {
                    long number = Long.decode(texts[i].replace("L", ""));
                    numbers[i] = method.getParameterTypes()[i] == long.class ? (Object) number : (Object) (int) number;
                }
                return ((Number) method.invoke(x, numbers)).longValue();
            }
        }
        due("there is a call " + name, 0, 1);
        return 0;
    }

    private static void everyCallIsTold(String readme) {
        sentence("README.md says how to use the class");
        for (Method method : FlowEquations.class.getDeclaredMethods()) {
            if (Modifier.isPublic(method.getModifiers())) {
                due(method.getName() + " has a row", readme.contains("\n| `" + method.getName() + "(") ? 1 : 0, 1);
            }
        }
        for (Field field : FlowEquations.class.getDeclaredFields()) {
            if (Modifier.isPublic(field.getModifiers())) {
                due(field.getName() + " is told", readme.contains("`" + field.getName() + "`") ? 1 : 0, 1);
            }
        }
    }

    private static void wayToRunTheTests(String readme) {
        sentence("the way of running the tests that README.md tells is the one that .ci/run takes");
        due("it is .ci/run", block(readme, "sh").equals(List.of(".ci/run")) ? 1 : 0, 1);
        due(".ci/run is there", new File(".ci/run").isFile() ? 1 : 0, 1);
        // This test is run by .ci/run itself, so its own class path tells how.
        String alone = "`java -cp " + System.getProperty("java.class.path") + " PromisesTest`";
        due("one alone: " + alone, readme.contains(alone) ? 1 : 0, 1);
    }

    private static void everyTestIsNamed(String readme) {
        sentence("README.md names the tests that are run");
        TreeSet<String> named = new TreeSet<>();
        Matcher name = TEST_NAME.matcher(readme);
        while (name.find()) {
            named.add(name.group(1));
        }
        TreeSet<String> there = new TreeSet<>();
        for (String file : new File("src/test/java").list()) {
            if (file.endsWith("Test.java")) {
                there.add(file.replace(".java", ""));
            }
        }
        for (String test : there) {
            due(test + " is named", named.contains(test) ? 1 : 0, 1);
        }
        for (String test : named) {
            due(test + " is there", there.contains(test) ? 1 : 0, 1);
        }
    }
}
