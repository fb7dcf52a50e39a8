import java.util.HashMap;
import java.util.Map;

/** One call of the face, as it is written in a script: "deliver 0", "code 1 LOAD 3". */
record Call(String name, int x, int y, int z) {
    private static final Map<String, Integer> NAMES = new HashMap<>();

    static {
        number(0, "LOAD", "STORE", "ADD", "JUMP", "SET", "SWAP");
        number(0, "I", "S", "M", "IS", "IM", "IMA", "SM", "SMA", "MI", "SI", "II");
        number(0, "GETS", "GETM", "PUTS", "PUTM", "FWDS", "FWDM", "INV", "PUTACK", "DATA", "ACK");
        number(0, "kind", "sender", "receiver", "block", "word", "number", "requester");
        number(0, "false", "true");
        number(-3, "STALLED", "BEHIND", "NONE");
        number(4, "HOME");
        number(Integer.MIN_VALUE, "LOWEST");
        number(Integer.MAX_VALUE, "HIGHEST");
    }

    private static void number(int first, String... names) {
        for (int k = 0; k < names.length; k++) {
            NAMES.put(names[k], first + k);
        }
    }

    static int value(String text) {
        Integer named = NAMES.get(text);
        return named != null ? named : Integer.parseInt(text);
    }

    static Call of(String name, int... arguments) {
        int[] all = new int[3];
        System.arraycopy(arguments, 0, all, 0, arguments.length);
        return new Call(name, all[0], all[1], all[2]);
    }

    static Call parse(String text) {
        String[] parts = text.trim().split("\\s+");
        int[] arguments = new int[parts.length - 1];
        for (int k = 0; k < arguments.length; k++) {
            arguments[k] = value(parts[k + 1]);
        }
        return of(parts[0], arguments);
    }

    /** A question changes nothing, and neither does a call that is refused. */
    boolean changesNothing(int answer) {
        switch (name) {
            case "code":
            case "go": return answer == 0;
            case "step": return answer == HomeDirectory.NONE || answer == 0 || answer == 4;
            case "deliver": return answer < 0;
            default: return true;
        }
    }

    int on(HomeDirectory object) {
        switch (name) {
            case "code": return object.code(x, y, z) ? 1 : 0;
            case "go": return object.go(x, y) ? 1 : 0;
            case "step": return object.step(x);
            case "deliver": return object.deliver(x);
            case "messages": return object.messages();
            case "message": return object.message(x, y);
            case "line": return object.line(x, y);
            case "word": return object.word(x, y);
            case "home": return object.home(x);
            case "memory": return object.memory(x);
            case "accumulator": return object.accumulator(x);
            case "place": return object.place(x);
            case "sent": return object.sent();
            case "performed": return object.performed();
            default: throw new IllegalArgumentException(name);
        }
    }
}
