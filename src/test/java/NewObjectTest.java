import java.lang.reflect.Constructor;
import java.lang.reflect.Field;
import java.lang.reflect.Method;
import java.lang.reflect.Modifier;
import java.util.Set;
import java.util.TreeSet;

/** Promise 1, the constants, the face, and what every question answers about a new object. */
public final class NewObjectTest {
    public static void main(String[] args) {
        constants();
        face();
        cores();
        lines();
        everythingAtFirst();
        nothingElsewhere();
        Script.finish();
    }

    private static void constants() {
        Script.due("NONE", HomeDirectory.NONE, -1);
        Script.due("BEHIND", HomeDirectory.BEHIND, -2);
        Script.due("STALLED", HomeDirectory.STALLED, -3);
    }

    private static void face() {
        Set<String> names = new TreeSet<>();
        for (Method method : HomeDirectory.class.getDeclaredMethods()) {
            if (!Modifier.isPrivate(method.getModifiers())) {
                names.add(method.getName());
            }
        }
        Set<String> wanted = new TreeSet<>(Set.of("code", "go", "step", "deliver", "messages", "message", "line",
                "word", "home", "memory", "accumulator", "place", "sent", "performed"));
        Script.due("the methods are " + names, names.equals(wanted) ? 1 : 0, 1);
        int fields = 0;
        for (Field field : HomeDirectory.class.getDeclaredFields()) {
            fields += Modifier.isPrivate(field.getModifiers()) ? 0 : 1;
        }
        Script.due("fields that are not private", fields, 3);
        Constructor<?>[] constructors = HomeDirectory.class.getDeclaredConstructors();
        Script.due("constructors", constructors.length, 1);
        Script.due("final", Modifier.isFinal(HomeDirectory.class.getModifiers()) ? 1 : 0, 1);
    }

    private static void cores() {
        int[] given = {Integer.MIN_VALUE, -1, 0, 1, 2, 3, 4, 5, 100, Integer.MAX_VALUE};
        int[] due = {2, 2, 2, 2, 2, 3, 4, 4, 4, 4};
        for (int k = 0; k < given.length; k++) {
            HomeDirectory object = new HomeDirectory(given[k], 2);
            int found = 0;
            for (int c = -2; c < 8; c++) {
                found += object.place(c) == 0 ? 1 : 0;
            }
            Script.due("cores of HomeDirectory(" + given[k] + ", 2)", found, due[k]);
            Script.due("place of the last core", object.place(due[k] - 1), 0);
        }
    }

    private static void lines() {
        int[] given = {Integer.MIN_VALUE, -1, 0, 1, 2, 3, 4, 100, Integer.MAX_VALUE};
        int[] due = {1, 1, 1, 1, 2, 3, 3, 3, 3};
        for (int k = 0; k < given.length; k++) {
            Script.due("lines of HomeDirectory(2, " + given[k] + ")", linesInUse(given[k]), due[k]);
        }
    }

    private static int linesInUse(int lines) {
        HomeDirectory object = new HomeDirectory(2, lines);
        for (int block = 0; block < 4; block++) {
            object.code(1, 0, block);
        }
        int used = 0;
        while (used < 4 && object.step(1) == 2) {
            Script.settle(object);
            used++;
        }
        return used;
    }

    private static void everythingAtFirst() {
        HomeDirectory object = new HomeDirectory(4, 3);
        Script.due("messages", object.messages(), 0);
        Script.due("sent", object.sent(), 0);
        Script.due("performed", object.performed(), 0);
        for (int c = 0; c < 4; c++) {
            Script.due("place", object.place(c), 0);
            Script.due("accumulator", object.accumulator(c), 0);
            Script.due("step without instructions", object.step(c), 4);
            for (int b = 0; b < 4; b++) {
                Script.due("line", object.line(c, b), 0);
                Script.due("word", object.word(c, b), 0);
                Script.due("home", object.home(b), 0);
                Script.due("memory", object.memory(b), 0);
            }
        }
    }

    private static void nothingElsewhere() {
        for (int cores = 2; cores <= 4; cores++) {
            for (int no : new int[] {Integer.MIN_VALUE, -1, cores, 5, Integer.MAX_VALUE}) {
                Script.run("no core " + no, cores, 1,
                        "code " + no + " SET 1 = false; go " + no + " 0 = false; step " + no + " = NONE",
                        "line " + no + " 0 = NONE; word " + no + " 0 = 0; accumulator " + no + " = 0",
                        "place " + no + " = NONE");
            }
        }
        for (int no : new int[] {Integer.MIN_VALUE, -1, 4, Integer.MAX_VALUE}) {
            Script.run("no block or message " + no, 4, 3,
                    "line 0 " + no + " = NONE; word 0 " + no + " = 0; home " + no + " = NONE",
                    "memory " + no + " = 0; deliver " + no + " = NONE; message " + no + " kind = NONE");
        }
    }
}
