import java.lang.reflect.Constructor;
import java.lang.reflect.Field;
import java.lang.reflect.Member;
import java.lang.reflect.Method;
import java.lang.reflect.Modifier;
import java.util.Set;
import java.util.TreeSet;

/** The public face and the constants: all that the document writes out, and nothing beside it. */
public final class FaceTest {
    private static final Set<String> FACE = Set.of(
            "public static final int HomeDirectory.NONE",
            "public static final int HomeDirectory.BEHIND",
            "public static final int HomeDirectory.STALLED",
            "public HomeDirectory(int,int)",
            "public boolean HomeDirectory.code(int,int,int)",
            "public boolean HomeDirectory.go(int,int)",
            "public int HomeDirectory.step(int)",
            "public int HomeDirectory.deliver(int)",
            "public int HomeDirectory.messages()",
            "public int HomeDirectory.message(int,int)",
            "public int HomeDirectory.line(int,int)",
            "public int HomeDirectory.word(int,int)",
            "public int HomeDirectory.home(int)",
            "public int HomeDirectory.memory(int)",
            "public int HomeDirectory.accumulator(int)",
            "public int HomeDirectory.place(int)",
            "public int HomeDirectory.sent()",
            "public int HomeDirectory.performed()");

    public static void main(String[] args) {
        constants();
        members();
        theClass();
        Script.finish();
    }

    private static void constants() {
        Script.due("NONE", HomeDirectory.NONE, -1);
        Script.due("BEHIND", HomeDirectory.BEHIND, -2);
        Script.due("STALLED", HomeDirectory.STALLED, -3);
    }

    private static void members() {
        Set<String> found = new TreeSet<>();
        for (Field field : HomeDirectory.class.getDeclaredFields()) {
            add(found, field, field.toString());
        }
        for (Constructor<?> constructor : HomeDirectory.class.getDeclaredConstructors()) {
            add(found, constructor, constructor.toString());
        }
        for (Method method : HomeDirectory.class.getDeclaredMethods()) {
            add(found, method, method.toString());
        }
        Set<String> lacking = new TreeSet<>(FACE);
        lacking.removeAll(found);
        found.removeAll(FACE);
        Script.due("members that the face lacks " + lacking, lacking.size(), 0);
        Script.due("members beside the face " + found, found.size(), 0);
    }

    private static void add(Set<String> found, Member member, String text) {
        if (!Modifier.isPrivate(member.getModifiers()) && !member.isSynthetic()) {
            found.add(text);
        }
    }

    private static void theClass() {
        Class<?> face = HomeDirectory.class;
        Script.due("public", Modifier.isPublic(face.getModifiers()) ? 1 : 0, 1);
        Script.due("final", Modifier.isFinal(face.getModifiers()) ? 1 : 0, 1);
        Script.due("without a package", face.getPackageName().length(), 0);
        Script.due("extends Object alone", face.getSuperclass() == Object.class && face.getInterfaces().length == 0 ? 1 : 0, 1);
    }
}
