import java.io.File;
import java.io.IOException;
import java.lang.reflect.Field;
import java.lang.reflect.Method;
import java.lang.reflect.Modifier;
import java.nio.file.Files;
import java.nio.file.Path;
import java.util.HashMap;
import java.util.Map;
import java.util.regex.Matcher;
import java.util.regex.Pattern;

/** README.md is held against the class: its examples answer as it says, and it leaves nothing out. */
public final class ReadmeTest {
    private static final Pattern CODE = Pattern.compile("(?s)```java\n(.*?)```");
    private static final Pattern CALL = Pattern.compile("(?:int (\\w+) = )?x\\.(\\w+)\\((.*)\\); +// (-?\\d+)(?::.*)?");
    private static final String NEW_OBJECT = "OpticalTelegraph x = new OpticalTelegraph();";
    private static final Check check = new Check();

    public static void main(String[] args) throws IOException, ReflectiveOperationException {
        String readme = Files.readString(Path.of("README.md"));
        examples(readme);
        calls(readme);
        constants(readme);
        tests(readme);
        check.end();
    }

    private static void examples(String readme) throws ReflectiveOperationException {
        check.part("the examples");
        int examples = 0;
        Matcher matcher = CODE.matcher(readme);
        while (matcher.find()) {
            examples++;
            runExample(matcher.group(1).split("\n"));
        }
        check.due("number of examples", examples, 2);
    }

    private static void runExample(String[] lines) throws ReflectiveOperationException {
        check.dueText("the first line", lines[0], NEW_OBJECT);
        OpticalTelegraph x = new OpticalTelegraph();
        Map<String, Integer> names = new HashMap<>();
        for (int i = 1; i < lines.length; i++) {
            Matcher call = CALL.matcher(lines[i]);
            if (!call.matches()) {
                check.fail("this is no call with its answer: " + lines[i]);
                continue;
            }
            int got = answer(x, call.group(2), call.group(3), names);
            check.due(lines[i], got, Integer.parseInt(call.group(4)));
            if (call.group(1) != null) {
                names.put(call.group(1), got);
            }
        }
    }

    private static int answer(OpticalTelegraph x, String name, String list, Map<String, Integer> names) throws ReflectiveOperationException {
        String[] words = list.isEmpty() ? new String[0] : list.split(", ");
        Class<?>[] types = new Class<?>[words.length];
        Object[] values = new Object[words.length];
        for (int i = 0; i < words.length; i++) {
            boolean character = words[i].startsWith("'");
            types[i] = character ? char.class : int.class;
            if (character) {
                values[i] = words[i].charAt(1);
            } else {
                values[i] = names.containsKey(words[i]) ? names.get(words[i]) : Integer.valueOf(words[i]);
            }
        }
        return (Integer) OpticalTelegraph.class.getMethod(name, types).invoke(x, values);
    }

    /** Each public method has a row of its own, with as many arguments as it takes. */
    private static void calls(String readme) {
        check.part("the calls");
        int rows = 0;
        for (Method method : OpticalTelegraph.class.getDeclaredMethods()) {
            if (Modifier.isPublic(method.getModifiers())) {
                rows++;
                String arguments = method.getParameterCount() == 0 ? "" : "\\w+" + ", \\w+".repeat(method.getParameterCount() - 1);
                Matcher row = Pattern.compile("(?m)^\\| `" + method.getName() + "\\(" + arguments + "\\)` \\|").matcher(readme);
                check.due("rows of " + method.getName(), (int) row.results().count(), 1);
            }
        }
        Matcher all = Pattern.compile("(?m)^\\| `\\w+\\(").matcher(readme);
        check.due("rows of all calls", (int) all.results().count(), rows);
    }

    private static void constants(String readme) throws IllegalAccessException {
        check.part("the constants");
        int rows = 0;
        for (Field field : OpticalTelegraph.class.getFields()) {
            rows++;
            if (!readme.contains("\n| `" + field.getName() + "` | " + field.getInt(null) + " |")) {
                check.fail(field.getName() + " has no row with its number");
            }
        }
        check.due("constants", rows, 6);
    }

    private static void tests(String readme) {
        check.part("the tests");
        String[] files = new File("src/test/java").list();
        int tests = 0;
        for (String file : files == null ? new String[0] : files) {
            if (file.endsWith("Test.java")) {
                tests++;
                if (!readme.contains("`" + file.substring(0, file.length() - ".java".length()) + "`")) {
                    check.fail(file + " is not named");
                }
            }
        }
        check.due("there are tests", Math.min(tests, 1), 1);
    }
}
