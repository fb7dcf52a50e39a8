import java.util.HashMap;
import java.util.Map;

/**
 * Runs of calls written as text. A row holds calls parted by ';', each with the answer that is due
 * ("deliver 0 = STALLED") or without one ("code 0 LOAD 2"); true and false count 1 and 0.
 * The row "settle" delivers whatever can be delivered until nothing can.
 */
final class Script {
    private static final Map<String, Integer> NAMES = new HashMap<>();
    private static int wrong = 0;

    static {
        number(0, "LOAD", "STORE", "ADD", "JUMP", "SET", "SWAP");
        number(0, "I", "S", "M", "IS", "IM", "IMA", "SM", "SMA", "MI", "SI", "II");
        number(0, "GETS", "GETM", "PUTS", "PUTM", "FWDS", "FWDM", "INV", "PUTACK", "DATA", "ACK");
        number(0, "kind", "sender", "receiver", "block", "word", "number", "requester");
        number(0, "false", "true");
        number(-3, "STALLED", "BEHIND", "NONE");
        number(4, "HOME");
        number(Integer.MIN_VALUE, "LOWEST");
        number(Integer.MAX_VALUE, "HIGHEST");
    }

    private final String title;
    private final HomeDirectory object;

    private Script(String title, int cores, int lines) {
        this.title = title;
        object = new HomeDirectory(cores, lines);
    }

    static void run(String title, int cores, int lines, String... rows) {
        Script script = new Script(title, cores, lines);
        for (String row : rows) {
            for (String call : row.split(";")) {
                if (!call.isBlank()) {
                    script.call(call.trim());
                }
            }
        }
    }

    static void due(String what, long got, long want) {
        if (got != want) {
            wrong++;
            System.out.println(what + " answered " + got + ", due is " + want);
        }
    }

    static void finish() {
        System.out.println(wrong == 0 ? "all answers are as due" : wrong + " answers are not as due");
        if (wrong != 0) {
            System.exit(1);
        }
    }

    /** Delivers the first message that can be delivered, until there is none. */
    static void settle(HomeDirectory object) {
        int k = 0;
        while (k < object.messages()) {
            k = object.deliver(k) < 0 ? k + 1 : 0;
        }
    }

    private static void number(int first, String... names) {
        for (int k = 0; k < names.length; k++) {
            NAMES.put(names[k], first + k);
        }
    }

    private static int value(String text) {
        Integer named = NAMES.get(text);
        return named != null ? named : Integer.parseInt(text);
    }

    private void call(String call) {
        String[] sides = call.split("=");
        String[] parts = sides[0].trim().split("\\s+");
        if (parts[0].equals("settle")) {
            settle(object);
            return;
        }
        int[] x = new int[3];
        for (int k = 1; k < parts.length; k++) {
            x[k - 1] = value(parts[k]);
        }
        int got = answer(parts[0], x);
        if (sides.length > 1) {
            due(title + ": " + sides[0].trim(), got, value(sides[1].trim()));
        }
    }

    private int answer(String name, int[] x) {
        switch (name) {
            case "code": return object.code(x[0], x[1], x[2]) ? 1 : 0;
            case "go": return object.go(x[0], x[1]) ? 1 : 0;
            case "step": return object.step(x[0]);
            case "deliver": return object.deliver(x[0]);
            case "messages": return object.messages();
            case "message": return object.message(x[0], x[1]);
            case "line": return object.line(x[0], x[1]);
            case "word": return object.word(x[0], x[1]);
            case "home": return object.home(x[0]);
            case "memory": return object.memory(x[0]);
            case "accumulator": return object.accumulator(x[0]);
            case "place": return object.place(x[0]);
            case "sent": return object.sent();
            case "performed": return object.performed();
            default: throw new IllegalArgumentException(name);
        }
    }
}
