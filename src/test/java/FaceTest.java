import java.io.IOException;
import java.lang.reflect.Constructor;
import java.lang.reflect.Field;
import java.lang.reflect.Method;
import java.lang.reflect.Modifier;
import java.nio.file.Files;
import java.nio.file.Path;
import java.util.Arrays;
import java.util.Set;
import java.util.TreeSet;
import java.util.regex.Matcher;
import java.util.regex.Pattern;

/** The public face of the document, and those rules of LANGUAGE.md that a look at the source can tell. */
public final class FaceTest {
    private static final Path SOURCE = Path.of("src/main/java/SmokeZones.java");
    private static final String BOTH = " throws IllegalArgumentException, IllegalStateException";
    private static final String ARGUMENT = " throws IllegalArgumentException";
    private static final String[] METHODS = {
        "int room(int, int)" + BOTH,
        "int opening(int, int, int, int, int)" + BOTH,
        "void glass(int, int)" + BOTH,
        "int fire(int, int, int, int, int)" + BOTH,
        "void sprinkler(int, int)" + BOTH,
        "int fan(int, int, int)" + BOTH,
        "int steel(int, int)" + BOTH,
        "int person(int)" + BOTH,
        "void go(int, int, int)" + BOTH,
        "int run(int)" + BOTH,
        "long roomAt(int, int)" + ARGUMENT,
        "long openingAt(int, int)" + ARGUMENT,
        "long personAt(int, int)" + ARGUMENT,
        "int steelAt(int)" + ARGUMENT,
        "long balance(int)" + ARGUMENT,
    };
    /** Words that no rule of LANGUAGE.md leaves. */
    private static final String[] RULED_OUT = {
        "package", "protected", "finally", "synchronized", "assert", "\\w+Exact", "Thread", "Random", "hashCode",
        "System(?!\\.arraycopy)", "getMessage", "native", "volatile", "static \\{",
    };
    private static final Set<String> IMPORTS = Set.of("java.util.ArrayList", "java.util.List", "java.util.Arrays",
        "java.util.Iterator", "java.util.NoSuchElementException");
    private static final Set<String> EXCEPTIONS = Set.of("IllegalStateException", "IllegalArgumentException",
        "IndexOutOfBoundsException", "ArithmeticException", "UnsupportedOperationException",
        "NoSuchElementException", "RuntimeException");
    private static final Check check = new Check("FaceTest");

    public static void main(String[] args) throws IOException {
        methods();
        fields();
        constructors();
        nestedClasses();
        String code = codeAlone(Files.readString(SOURCE));
        words(code);
        importsAndExceptions(code);
        lambdas(code);
        check.end();
    }

    private static void methods() {
        Set<String> open = new TreeSet<>();
        Set<String> openNames = new TreeSet<>();
        Set<String> hiddenNames = new TreeSet<>();
        for (Method m : SmokeZones.class.getDeclaredMethods()) {
            if (Modifier.isPublic(m.getModifiers())) {
                open.add(signature(m));
                openNames.add(m.getName());
            } else {
                check.yes("private: " + m, Modifier.isPrivate(m.getModifiers()));
                hiddenNames.add(m.getName());
            }
        }
        Set<String> due = new TreeSet<>(Arrays.asList(METHODS));
        check.yes("the public methods are " + due + ", and are " + open, open.equals(due));
        hiddenNames.retainAll(openNames);
        check.yes("no private method bears a public name: " + hiddenNames, hiddenNames.isEmpty());
    }

    private static String signature(Method m) {
        StringBuilder text = new StringBuilder();
        text.append(m.getReturnType()).append(' ').append(m.getName()).append('(');
        text.append(names(m.getParameterTypes())).append(") throws ");
        return text.append(names(m.getExceptionTypes())).toString();
    }

    private static String names(Class<?>[] types) {
        StringBuilder text = new StringBuilder();
        for (Class<?> type : types) {
            text.append(text.length() == 0 ? "" : ", ").append(type.getSimpleName());
        }
        return text.toString();
    }

    private static void fields() {
        for (Field f : SmokeZones.class.getDeclaredFields()) {
            int modifiers = f.getModifiers();
            boolean constant = f.getName().equals("NONE") && Modifier.isPublic(modifiers);
            check.yes("NONE or private: " + f, constant || Modifier.isPrivate(modifiers));
            check.yes("static fields are final: " + f, !Modifier.isStatic(modifiers) || Modifier.isFinal(modifiers));
        }
        check.due("NONE", SmokeZones.NONE, -1);
    }

    private static void constructors() {
        Constructor<?>[] made = SmokeZones.class.getDeclaredConstructors();
        check.due("constructors", made.length, 1);
        check.yes("the constructor is public", Modifier.isPublic(made[0].getModifiers()));
        check.due("its parameters", made[0].getParameterCount(), 0);
        check.yes("the class is public", Modifier.isPublic(SmokeZones.class.getModifiers()));
        check.yes("the class is final", Modifier.isFinal(SmokeZones.class.getModifiers()));
    }

    private static void nestedClasses() {
        Class<?>[] nested = SmokeZones.class.getDeclaredClasses();
        check.yes("at most some twelve classes", nested.length < 12);
        sizes(SmokeZones.class);
        for (Class<?> c : nested) {
            int modifiers = c.getModifiers();
            check.yes("not public: " + c, !Modifier.isPublic(modifiers) && !Modifier.isProtected(modifiers));
            sizes(c);
        }
    }

    private static void sizes(Class<?> c) {
        int fields = 0;
        for (Field f : c.getDeclaredFields()) {
            fields += Modifier.isStatic(f.getModifiers()) ? 0 : 1;
        }
        check.yes("some twenty fields at most: " + c, fields <= 20);
        for (Method m : c.getDeclaredMethods()) {
            check.yes("seven parameters at most: " + m, m.getParameterCount() <= 7);
        }
    }

    /** Without texts and comments, whose words are free. */
    private static String codeAlone(String source) {
        return source.replaceAll("\"(\\\\.|[^\"\\\\])*\"", "\"\"").replaceAll("(?s)/\\*.*?\\*/", " ").replaceAll("//.*", " ");
    }

    private static void words(String code) {
        for (String word : RULED_OUT) {
            Matcher found = Pattern.compile("\\b" + word).matcher(code);
            check.yes("not in the program: " + word, !found.find());
        }
    }

    private static void importsAndExceptions(String code) {
        Matcher imported = Pattern.compile("import\\s+([^;]*);").matcher(code);
        while (imported.find()) {
            check.yes("no import of " + imported.group(1), IMPORTS.contains(imported.group(1).trim()));
        }
        Matcher caught = Pattern.compile("catch\\s*\\(\\s*(?:final\\s+)?([\\w.| ]*?)\\s+\\w+\\s*\\)").matcher(code);
        while (caught.find()) {
            for (String name : caught.group(1).split("\\|")) {
                check.yes("no catch of " + name, EXCEPTIONS.contains(name.trim()));
            }
        }
        Matcher thrown = Pattern.compile("\\bthrow\\s+([^;]*);").matcher(code);
        while (thrown.find()) {
            Matcher made = Pattern.compile("new (\\w+)\\((\"\")?\\)").matcher(thrown.group(1).trim());
            check.yes("thrown as rule 6 says: " + thrown.group(1), made.matches() && EXCEPTIONS.contains(made.group(1)));
        }
    }

    private static void lambdas(String code) {
        String rest = code.replaceAll("\\b(case\\b[^:;{}]*?|default\\s*)->", "");
        check.yes("no lambda", !rest.contains("->"));
        check.yes("no method reference", !rest.contains("::"));
    }
}
