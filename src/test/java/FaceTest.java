import java.io.IOException;
import java.lang.reflect.Constructor;
import java.lang.reflect.Field;
import java.lang.reflect.Method;
import java.lang.reflect.Modifier;
import java.nio.file.Files;
import java.nio.file.Path;
import java.util.Arrays;
import java.util.Set;
import java.util.TreeSet;

/** The public face of the document, and rules of LANGUAGE.md that can be seen from outside. */
public final class FaceTest {
    private static final Path SOURCE = Path.of("src/main/java/SmokeZones.java");
    private static final String BOTH = " throws IllegalArgumentException, IllegalStateException";
    private static final String ARGUMENT = " throws IllegalArgumentException";
    private static final String[] METHODS = {
        "int room(int, int)" + BOTH,
        "int opening(int, int, int, int, int)" + BOTH,
        "void glass(int, int)" + BOTH,
        "int fire(int, int, int, int, int)" + BOTH,
        "void sprinkler(int, int)" + BOTH,
        "int fan(int, int, int)" + BOTH,
        "int steel(int, int)" + BOTH,
        "int person(int)" + BOTH,
        "void go(int, int, int)" + BOTH,
        "int run(int)" + BOTH,
        "long roomAt(int, int)" + ARGUMENT,
        "long openingAt(int, int)" + ARGUMENT,
        "long personAt(int, int)" + ARGUMENT,
        "int steelAt(int)" + ARGUMENT,
        "long balance(int)" + ARGUMENT,
    };
    private static final String[] RULED_OUT = {
        "try", "catch", "finally", "synchronized", "assert", "import", "protected", "package",
        "Exact", "->", "::", "System.", "Thread", "Random",
    };
    private static final Check check = new Check("FaceTest");

    public static void main(String[] args) throws IOException {
        methods();
        fields();
        constructors();
        nestedClasses();
        words();
        check.end();
    }

    private static void yes(String what, boolean holds) {
        check.due(what, holds ? 1 : 0, 1);
    }

    private static void methods() {
        Set<String> open = new TreeSet<>();
        Set<String> openNames = new TreeSet<>();
        Set<String> hiddenNames = new TreeSet<>();
        for (Method m : SmokeZones.class.getDeclaredMethods()) {
            if (Modifier.isPublic(m.getModifiers())) {
                open.add(signature(m));
                openNames.add(m.getName());
            } else {
                yes("private: " + m, Modifier.isPrivate(m.getModifiers()));
                hiddenNames.add(m.getName());
            }
        }
        Set<String> due = new TreeSet<>(Arrays.asList(METHODS));
        yes("the public methods are " + due + ", and are " + open, open.equals(due));
        hiddenNames.retainAll(openNames);
        yes("no private method bears a public name: " + hiddenNames, hiddenNames.isEmpty());
    }

    private static String signature(Method m) {
        StringBuilder text = new StringBuilder();
        text.append(m.getReturnType()).append(' ').append(m.getName()).append('(');
        text.append(names(m.getParameterTypes())).append(") throws ");
        return text.append(names(m.getExceptionTypes())).toString();
    }

    private static String names(Class<?>[] types) {
        StringBuilder text = new StringBuilder();
        for (Class<?> type : types) {
            text.append(text.length() == 0 ? "" : ", ").append(type.getSimpleName());
        }
        return text.toString();
    }

    private static void fields() {
        for (Field f : SmokeZones.class.getDeclaredFields()) {
            int modifiers = f.getModifiers();
            boolean constant = f.getName().equals("NONE") && Modifier.isPublic(modifiers);
            yes("NONE or private: " + f, constant || Modifier.isPrivate(modifiers));
            yes("static fields are final: " + f, !Modifier.isStatic(modifiers) || Modifier.isFinal(modifiers));
        }
        check.due("NONE", SmokeZones.NONE, -1);
    }

    private static void constructors() {
        Constructor<?>[] made = SmokeZones.class.getDeclaredConstructors();
        check.due("constructors", made.length, 1);
        yes("the constructor is public", Modifier.isPublic(made[0].getModifiers()));
        check.due("its parameters", made[0].getParameterCount(), 0);
        yes("the class is public", Modifier.isPublic(SmokeZones.class.getModifiers()));
        yes("the class is final", Modifier.isFinal(SmokeZones.class.getModifiers()));
    }

    private static void nestedClasses() {
        Class<?>[] nested = SmokeZones.class.getDeclaredClasses();
        yes("at most some twelve classes", nested.length < 12);
        for (Class<?> c : nested) {
            yes("static and private: " + c, Modifier.isStatic(c.getModifiers()) && Modifier.isPrivate(c.getModifiers()));
        }
    }

    private static void words() throws IOException {
        String source = Files.readString(SOURCE);
        for (String word : RULED_OUT) {
            boolean plain = Character.isLowerCase(word.charAt(0));
            boolean found = plain ? source.matches("(?s).*\\b" + word + "\\b.*") : source.contains(word);
            yes("not in the program: " + word, !found);
        }
    }
}
