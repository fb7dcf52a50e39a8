import java.io.IOException;
import java.lang.reflect.Method;
import java.lang.reflect.Modifier;
import java.nio.file.Files;
import java.nio.file.Path;
import java.util.Set;
import java.util.TreeSet;
import java.util.regex.Matcher;
import java.util.regex.Pattern;

/** The examples of README.md: every call answers what is written behind it, and they use the whole face. */
public final class ReadmeTest {
    private static final Pattern MADE = Pattern.compile("HomeDirectory object = new HomeDirectory\\((\\d), (\\d)\\);");
    private static final Pattern CALLED = Pattern.compile("object\\.(\\w+)\\((.*)\\);\\s*// (-?\\w+): .+");

    private static Subject subject;
    private static final Set<String> used = new TreeSet<>();

    public static void main(String[] args) throws IOException {
        String[] parts = Files.readString(Path.of("README.md")).split("```");
        for (String part : parts) {
            if (part.startsWith("java\n")) {
                part.lines().skip(1).forEach(ReadmeTest::row);
            }
        }
        for (Method method : HomeDirectory.class.getDeclaredMethods()) {
            if (Modifier.isPublic(method.getModifiers())) {
                String name = method.getName();
                Script.due("examples that use " + name, used.contains(name) ? 1 : 0, 1);
                Script.due("the table names " + name, parts[0].contains("| `" + name + "(") ? 1 : 0, 1);
            }
        }
        Script.finish();
    }

    private static void row(String text) {
        Matcher made = MADE.matcher(text);
        Matcher called = CALLED.matcher(text);
        if (made.matches()) {
            subject = new Subject(Integer.parseInt(made.group(1)), Integer.parseInt(made.group(2)));
        } else if (called.matches()) {
            used.add(called.group(1));
            Call call = Call.parse(called.group(1) + " " + called.group(2).replace(",", " "));
            Script.due("README.md: " + text, subject.answer(call), Call.value(called.group(3)));
        } else {
            Script.due("README.md: a row that can be read: " + text, 0, 1);
        }
    }
}
