import java.io.IOException;
import java.lang.reflect.Field;
import java.lang.reflect.InvocationTargetException;
import java.lang.reflect.Method;
import java.lang.reflect.Modifier;
import java.nio.file.Files;
import java.nio.file.Path;
import java.util.ArrayList;
import java.util.Arrays;
import java.util.HashMap;
import java.util.List;
import java.util.Map;
import java.util.TreeMap;
import java.util.regex.Matcher;
import java.util.regex.Pattern;

/** README.md: its example answers what it says, and it tells each call of the face with what that throws. */
public final class ReadmeTest {
    private static final Pattern LINE = Pattern.compile("(?:int (\\w+) = )?x\\.(\\w+)\\(([^)]*)\\);(?: +// (.*))?");
    private static final Pattern HEAD = Pattern.compile("^`(\\w+) (\\w+)\\(([^)]*)\\)`: ");
    private static final Pattern THROWS = Pattern.compile("^- Throws `(\\w+)` if ");

    private final Villagepost x = new Villagepost();
    private final Map<String, Integer> values = new HashMap<>();

    public static void main(String[] args) throws IOException, IllegalAccessException {
        List<String> lines = Files.readAllLines(Path.of("README.md"));
        new ReadmeTest().runExample(lines);
        Checks.due("the calls that are told", told(lines).toString(), face().toString());
        Checks.finish("ReadmeTest");
    }

    private ReadmeTest() throws IllegalAccessException {
        for (Field constant : Villagepost.class.getFields()) {
            values.put(constant.getName(), constant.getInt(null));
        }
        values.put("false", 0);
        values.put("true", 1);
    }

    private void runExample(List<String> lines) throws IllegalAccessException {
        int start = lines.indexOf("```java");
        int end = lines.indexOf("```");
        Checks.due("there is an example", start >= 0 && end > start + 2, true);
        Checks.due("it begins with a new object", lines.get(start + 1), "Villagepost x = new Villagepost();");
        for (String line : lines.subList(start + 2, end)) {
            Matcher parts = LINE.matcher(line);
            Checks.due("a call: " + line, parts.matches(), true);
            if (parts.matches()) {
                runLine(line, parts);
            }
        }
    }

    /** What a line says that it answers stands before the first colon behind it, unless it answers nothing. */
    private void runLine(String line, Matcher parts) throws IllegalAccessException {
        String said = parts.group(4) == null ? "" : parts.group(4).split(":")[0];
        Object answer;
        try {
            answer = call(parts.group(2), parts.group(3).split(", "));
        } catch (InvocationTargetException e) {
            Checks.due(line, "throws " + Checks.nameOf((RuntimeException) e.getCause()), said);
            return;
        }
        if (answer == null) {
            Checks.due(line + " throws", said.startsWith("throws "), false);
        } else {
            Checks.due(line, valueOf(answer.toString()), valueOf(said));
        }
        if (parts.group(1) != null) {
            values.put(parts.group(1), (Integer) answer);
        }
    }

    private Object call(String name, String[] words) throws IllegalAccessException, InvocationTargetException {
        for (Method method : Villagepost.class.getMethods()) {
            Class<?>[] types = method.getParameterTypes();
            if (method.getName().equals(name) && types.length == words.length) {
                Object[] given = new Object[words.length];
                for (int i = 0; i < words.length; i++) {
                    int value = valueOf(words[i]);
                    given[i] = types[i] == boolean.class ? (Object) (value == 1) : (Object) value;
                }
                return method.invoke(x, given);
            }
        }
        throw new IllegalStateException("no such call: " + name);
    }

    private int valueOf(String word) {
        Integer value = values.get(word.replace("Villagepost.", ""));
        return value == null ? Integer.parseInt(word) : value;
    }

    /** Each call that is told, with its types, and what it throws, in order. */
    private static Map<String, String> told(List<String> lines) {
        Map<String, String> found = new TreeMap<>();
        String call = "";
        for (String line : lines) {
            Matcher head = HEAD.matcher(line);
            Matcher thrown = THROWS.matcher(line);
            if (head.find()) {
                call = head.group(1) + " " + head.group(2) + types(head.group(3));
                found.put(call, "");
            } else if (line.isEmpty()) {
                call = "";
            } else if (thrown.find()) {
                found.merge(call, " " + thrown.group(1), String::concat);
            }
        }
        return found;
    }

    private static List<String> types(String parameters) {
        List<String> found = new ArrayList<>();
        for (String parameter : parameters.split(", ")) {
            found.add(parameter.split(" ")[0]);
        }
        return found;
    }

    private static Map<String, String> face() {
        Map<String, String> found = new TreeMap<>();
        for (Method method : Villagepost.class.getDeclaredMethods()) {
            if (Modifier.isPublic(method.getModifiers())) {
                List<String> types = new ArrayList<>();
                Arrays.stream(method.getParameterTypes()).forEach(type -> types.add(type.getName()));
                StringBuilder thrown = new StringBuilder();
                Arrays.stream(method.getExceptionTypes()).forEach(type -> thrown.append(" ").append(type.getSimpleName()));
                found.put(method.getReturnType().getName() + " " + method.getName() + types, thrown.toString());
            }
        }
        return found;
    }
}
