import java.lang.reflect.InvocationTargetException;
import java.lang.reflect.Method;
import java.lang.reflect.Modifier;
import java.nio.file.Files;
import java.nio.file.Path;
import java.util.HashMap;
import java.util.Map;
import java.util.Set;
import java.util.TreeSet;
import java.util.regex.Matcher;
import java.util.regex.Pattern;

/** Runs the example of README.md as it stands there: behind each call its answer. */
public final class ReadmeTest {
    private static final Pattern MADE = Pattern.compile("BoardHouse house = new BoardHouse\\((\\d+), (\\d+)\\);.*");
    private static final Pattern CALL = Pattern.compile(
            "(?:int (\\w+) = )?house\\.(\\w+)\\(([^)]*)\\);\\s*// ([-\\w]+)(?::.*)?");

    private final Answers answers = new Answers();
    private final Map<String, String> variables = new HashMap<>();
    private final Set<String> shown = new TreeSet<>();
    private BoardHouse house = null;

    public static void main(String[] args) throws Exception {
        ReadmeTest test = new ReadmeTest();
        boolean inside = false;
        for (String line : Files.readAllLines(Path.of("README.md"))) {
            if (line.startsWith("```")) {
                inside = line.equals("```java");
            } else if (inside && !line.isBlank()) {
                test.run(line);
            }
        }
        test.answers.due("the methods that the example shows", faceNames(), () -> test.shown);
        test.answers.finish("ReadmeTest");
    }

    private static Set<String> faceNames() {
        Set<String> names = new TreeSet<>();
        for (Method method : BoardHouse.class.getDeclaredMethods()) {
            if (Modifier.isPublic(method.getModifiers())) {
                names.add(method.getName());
            }
        }
        return names;
    }

    private void run(String line) {
        Matcher made = MADE.matcher(line);
        Matcher call = CALL.matcher(line);
        if (made.matches()) {
            house = new BoardHouse(Integer.parseInt(made.group(1)), Integer.parseInt(made.group(2)));
        } else if (house != null && call.matches()) {
            String got = Answers.of(() -> answer(call.group(2), call.group(3)));
            answers.due("README.md: " + line, due(call.group(4)), () -> got);
            shown.add(call.group(2));
            if (call.group(1) != null) {
                variables.put(call.group(1), got);
            }
        } else {
            answers.due("README.md: " + line, "a call with its answer", () -> "something else");
        }
    }

    private static String due(String told) {
        if (told.equals("NONE")) {
            return String.valueOf(BoardHouse.NONE);
        }
        return told.endsWith("Exception") ? "throws." + told : told;
    }

    private Object answer(String name, String listed) throws Exception {
        String[] words = listed.isEmpty() ? new String[0] : listed.split(", ");
        Object[] values = new Object[words.length];
        for (int i = 0; i < words.length; i++) {
            values[i] = value(words[i]);
        }
        for (Method method : BoardHouse.class.getDeclaredMethods()) {
            if (method.getName().equals(name) && method.getParameterCount() == values.length) {
                return called(method, values);
            }
        }
        return "no such method";
    }

    private Object value(String word) {
        if (word.equals("true") || word.equals("false")) {
            return Boolean.valueOf(word);
        }
        return Integer.valueOf(variables.getOrDefault(word, word));
    }

    private Object called(Method method, Object[] values) throws Exception {
        try {
            return method.invoke(house, values);
        } catch (InvocationTargetException e) {
            throw e.getCause() instanceof Exception thrown ? thrown : e;
        }
    }
}
