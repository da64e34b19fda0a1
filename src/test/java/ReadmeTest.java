import java.io.IOException;
import java.lang.reflect.InvocationTargetException;
import java.lang.reflect.Method;
import java.lang.reflect.Modifier;
import java.nio.file.Files;
import java.nio.file.Path;
import java.util.Set;
import java.util.TreeSet;
import java.util.regex.Matcher;
import java.util.regex.Pattern;

/** README.md's example answers as its comments say, and its table has each call with its arguments. */
public final class ReadmeTest {
    private static final Pattern STEP = Pattern.compile("sheets\\.(\\w+)\\((.*?)\\); +// (-?\\w+).*");
    private static final Pattern TABLE_ROW = Pattern.compile("\\| `(\\w+)\\((.*?)\\)` \\|.*");

    public static void main(String[] args) throws IOException {
        Checks checks = new Checks("readme");
        MatrixSheets sheets = new MatrixSheets();
        Set<String> inTable = new TreeSet<>();
        int steps = 0;
        for (String line : Files.readAllLines(Path.of("README.md"))) {
            Matcher step = STEP.matcher(line);
            Matcher row = TABLE_ROW.matcher(line);
            if (step.matches()) {
                steps++;
                checks.equal(line, step.group(3), answer(sheets, step.group(1), split(step.group(2))));
            } else if (row.matches()) {
                inTable.add(row.group(1) + " " + split(row.group(2)).length);
            } else {
                checks.equal("a step in a form that is not looked at: " + line, "false",
                        String.valueOf(line.startsWith("sheets.")));
            }
        }
        checks.equal("the example has steps", "true", String.valueOf(steps > 0));
        checks.equal("the table's calls", face().toString(), inTable.toString());
        checks.end();
    }

    private static String[] split(String list) {
        return list.isEmpty() ? new String[0] : list.split(", ");
    }

    private static Set<String> face() {
        Set<String> calls = new TreeSet<>();
        for (Method method : MatrixSheets.class.getDeclaredMethods()) {
            if (Modifier.isPublic(method.getModifiers())) {
                calls.add(method.getName() + " " + method.getParameterCount());
            }
        }
        return calls;
    }

    private static String answer(MatrixSheets sheets, String name, String[] words) {
        for (Method method : MatrixSheets.class.getMethods()) {
            if (method.getName().equals(name) && method.getParameterCount() == words.length) {
                return invoke(sheets, method, words);
            }
        }
        return "no such call";
    }

    private static String invoke(MatrixSheets sheets, Method method, String[] words) {
        Object[] values = new Object[words.length];
        for (int i = 0; i < words.length; i++) {
            if (method.getParameterTypes()[i] == boolean.class) {
                values[i] = Boolean.valueOf(words[i]);
            } else {
                values[i] = Integer.valueOf(words[i]);
            }
        }
        try {
            return String.valueOf(method.invoke(sheets, values));
        } catch (InvocationTargetException thrown) {
            return thrown.getCause().getClass().getSimpleName();
        } catch (IllegalAccessException notOpen) {
            return "not open";
        }
    }
}
