import java.lang.reflect.Field;
import java.lang.reflect.Method;
import java.lang.reflect.Modifier;
import java.nio.file.Files;
import java.nio.file.Path;
import java.util.Arrays;
import java.util.Set;
import java.util.TreeSet;
import java.util.stream.Collectors;

/** The class shows the document's face and nothing else, and keeps what can be told of its language. */
public final class FaceTest {
    private static final String INDEX = "IndexOutOfBoundsException";
    private static final String ARGUMENT = "IllegalArgumentException";
    private static final String STATE = "IllegalStateException";

    private static final String[] FACE = {
        "int net()",
        "int part(int, int, int, int, int) " + ARGUMENT,
        "int pad(int, int, int, int) " + INDEX + " " + ARGUMENT + " " + STATE,
        "int via(int, int, int) " + INDEX + " " + ARGUMENT,
        "int track(int, int, int, int, int, int) " + INDEX + " " + ARGUMENT,
        "int plane(int, int) " + INDEX + " " + ARGUMENT,
        "boolean move(int, int, int) " + INDEX + " " + ARGUMENT + " " + STATE,
        "boolean drop(int) " + INDEX + " " + ARGUMENT + " " + STATE,
        "int gap(int) " + ARGUMENT,
        "int islands(int) " + INDEX + " " + ARGUMENT,
        "int check()",
        "int near(int, int) " + INDEX,
        "int filled(int) " + INDEX + " " + ARGUMENT + " " + STATE,
        "int at(int, int) " + INDEX + " " + ARGUMENT,
        "int count(int) " + INDEX,
        "int begin(int, int, int, int)",
        "boolean work(int) " + INDEX + " " + ARGUMENT + " " + STATE,
        "int end(int, boolean) " + INDEX + " " + ARGUMENT + " " + STATE,
        "int version() " + STATE,
        "int back(int) " + INDEX + " " + ARGUMENT + " " + STATE,
        "int told()",
    };

    public static void main(String[] args) throws Exception {
        Answers a = new Answers();
        Class<?> c = BoardHouse.class;
        a.due("the class", "public final", () -> Modifier.toString(c.getModifiers()));
        a.due("the methods", new TreeSet<>(Arrays.asList(FACE)), () -> shownMethods(c));
        a.due("the constructors", "[public BoardHouse(int,int)]",
                () -> Arrays.toString(c.getDeclaredConstructors()));
        a.due("the fields", "[public static final int BoardHouse.NONE]", () -> shownFields(c));
        a.due("private methods of a public name", "[]", () -> sharedNames(c));
        for (Class<?> inside : c.getDeclaredClasses()) {
            a.due(inside.getName() + " is static", true, () -> Modifier.isStatic(inside.getModifiers()));
            a.due(inside.getName() + " is not shown", false, () -> Modifier.isPublic(inside.getModifiers()));
        }
        ruledOut(a);
        a.finish("FaceTest");
    }

    private static Set<String> shownMethods(Class<?> c) {
        Set<String> shown = new TreeSet<>();
        for (Method m : c.getDeclaredMethods()) {
            if (!Modifier.isPrivate(m.getModifiers())) {
                String takes = names(m.getParameterTypes(), ", ");
                String thrown = names(m.getExceptionTypes(), " ");
                shown.add((m.getReturnType() + " " + m.getName() + "(" + takes + ") " + thrown).trim());
            }
        }
        return shown;
    }

    private static String names(Class<?>[] types, String between) {
        return Arrays.stream(types).map(Class::getSimpleName).collect(Collectors.joining(between));
    }

    private static String shownFields(Class<?> c) {
        return Arrays.stream(c.getDeclaredFields())
                .filter(f -> !Modifier.isPrivate(f.getModifiers()))
                .map(Field::toString).collect(Collectors.toList()).toString();
    }

    private static Set<String> sharedNames(Class<?> c) {
        Set<String> open = new TreeSet<>();
        Set<String> hidden = new TreeSet<>();
        for (Method m : c.getDeclaredMethods()) {
            (Modifier.isPrivate(m.getModifiers()) ? hidden : open).add(m.getName());
        }
        hidden.retainAll(open);
        return hidden;
    }

    /** Words that LANGUAGE.md leaves out of the program. */
    private static void ruledOut(Answers a) throws Exception {
        String text = Files.readString(Path.of("src/main/java/BoardHouse.java"));
        String[] words = {"try", "catch", "finally", "synchronized", "assert", "->", "::", "Exact(", "package "};
        for (String word : words) {
            a.due("the program holds " + word, false, () -> text.contains(word));
        }
    }
}
