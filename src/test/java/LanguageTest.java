import java.io.IOException;
import java.lang.reflect.Field;
import java.lang.reflect.Method;
import java.lang.reflect.Modifier;
import java.nio.file.Files;
import java.nio.file.Path;
import java.util.ArrayList;
import java.util.List;
import java.util.Set;
import java.util.TreeSet;

/** Those rules of LANGUAGE.md that can be seen in the compiled class or in the words of its source. */
public final class LanguageTest {
    private static final Path SOURCE = Path.of("src/main/java/HomeDirectory.java");
    private static final Set<String> IMPORTS = Set.of("java.util.Arrays", "java.util.ArrayList", "java.util.List",
            "java.util.Iterator", "java.util.NoSuchElementException");
    /** The document names no exception, so nothing throws; the rest is what the rules leave out of Java. */
    private static final String[] LEFT_OUT = {"package", "throw", "throws", "try", "catch", "finally", "synchronized", "assert",
        "volatile", "native", "transient", "protected", "Thread", "Random", "Runtime", "System\\.(?!arraycopy)\\w+"};
    private static final Set<Class<?>> CONSTANTS = Set.of(int.class, long.class, boolean.class, char.class, String.class,
            int[].class, long[].class, char[].class, byte[].class);

    public static void main(String[] args) throws IOException {
        for (Class<?> type : classes()) {
            fields(type);
            methods(type);
        }
        nestedClasses();
        words(Files.readString(SOURCE));
        Script.finish();
    }

    private static void yes(String rule, boolean kept) {
        Script.due(rule, kept ? 1 : 0, 1);
    }

    private static List<Class<?>> classes() {
        List<Class<?>> all = new ArrayList<>(List.of(HomeDirectory.class.getDeclaredClasses()));
        all.add(HomeDirectory.class);
        return all;
    }

    private static void nestedClasses() {
        yes("rule 11: at most twelve classes", classes().size() <= 12);
        for (Class<?> type : HomeDirectory.class.getDeclaredClasses()) {
            int modifiers = type.getModifiers();
            yes("rule 1: " + type + " is static", Modifier.isStatic(modifiers));
            yes("rule 1: " + type + " is not public", !Modifier.isPublic(modifiers) && !Modifier.isProtected(modifiers));
        }
    }

    private static void fields(Class<?> type) {
        int own = 0;
        for (Field field : type.getDeclaredFields()) {
            if (Modifier.isStatic(field.getModifiers())) {
                yes("rule 5: " + field + " is a constant", Modifier.isFinal(field.getModifiers()) && CONSTANTS.contains(field.getType()));
            } else {
                own++;
            }
        }
        yes("rule 11: at most twenty fields in " + type, own <= 20);
    }

    private static void methods(Class<?> type) {
        Set<String> face = new TreeSet<>();
        for (Method method : HomeDirectory.class.getDeclaredMethods()) {
            if (Modifier.isPublic(method.getModifiers())) {
                face.add(method.getName());
            }
        }
        for (Method method : type.getDeclaredMethods()) {
            yes("rule 11: at most seven parameters: " + method, method.getParameterCount() <= 7);
            boolean ofTheFace = Modifier.isPublic(method.getModifiers());
            yes("rule 1: a name of the face: " + method, ofTheFace || !face.contains(method.getName()));
        }
    }

    private static void words(String source) {
        yes("rule 3: characters 0 to 255", source.chars().allMatch(c -> c <= 255));
        String code = source.replaceAll("(?s)/\\*.*?\\*/", "").replaceAll("//.*", "");
        for (String line : code.split("\n")) {
            if (line.startsWith("import")) {
                yes("rule 4: " + line, IMPORTS.contains(line.replaceAll("import |;", "").trim()));
            }
        }
        for (String word : LEFT_OUT) {
            yes("the word " + word, !code.matches("(?s).*\\b" + word + "\\b.*"));
        }
        yes("rule 2: no lambda and no method reference", !code.contains("->") && !code.contains("::"));
    }
}
