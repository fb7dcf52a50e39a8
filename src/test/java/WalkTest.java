import java.util.Arrays;

/**
 * Long walks of calls in a made-up order: every access sees the one memory, a refused call changes
 * nothing, only what the document names can happen, and the network always empties in the end.
 */
public final class WalkTest {
    private static final int LOAD = 0;
    private static final int STORE = 1;
    private static final int SWAP = 5;
    /** For each kind from FWDS on the states of a line in which it may come in. */
    private static final String[] COMES_IN = {"4 5 6 7 2 8", "4 5 6 7 2 8", "3 1 6 9", "8 9 10", "3 4 6", "4 6 5 7"};

    private final HomeDirectory object;
    private final int cores;
    private final int lines;
    private final int[][] ops;
    private final int[][] xs;
    private final int[] written;
    private final int[] oneMemory = new int[4];
    private final String title;
    private long seed;
    private int accesses = 0;

    private WalkTest(int number) {
        seed = number;
        title = "walk " + number;
        cores = 2 + number % 3;
        lines = 1 + number / 3 % 3;
        object = new HomeDirectory(cores, lines);
        ops = new int[cores][16];
        xs = new int[cores][16];
        written = new int[cores];
    }

    public static void main(String[] args) {
        for (int number = 0; number < 1500; number++) {
            new WalkTest(number).walk(number % 10 == 0 ? 3000 : 500);
        }
        anyArguments();
        Script.finish();
    }

    private int pick(int bound) {
        seed = seed * 6364136223846793005L + 1442695040888963407L;
        return (int) ((seed >>> 33) % bound);
    }

    private void walk(int calls) {
        int blocks = 1 + pick(4);
        for (int c = 0; c < cores; c++) {
            for (int k = 0; k < 12; k++) {
                write(c, blocks);
            }
        }
        for (int call = 0; call < calls; call++) {
            int choice = pick(20);
            if (choice < 9) {
                step(pick(cores));
            } else if (choice < 18) {
                deliver(pick(object.messages() + 2) - 1);
            } else if (choice < 19) {
                go(pick(cores), pick(20) - 2);
            } else {
                write(pick(cores), blocks);
            }
            bounds();
        }
        drain();
    }

    private void write(int core, int blocks) {
        int op = pick(6);
        int x = op == 2 || op == 4 ? pick(9) - 4 : op == 3 ? pick(16) : pick(blocks);
        boolean room = written[core] < 16;
        Script.due(title + ": code", object.code(core, op, x) ? 1 : 0, room ? 1 : 0);
        if (room) {
            ops[core][written[core]] = op;
            xs[core][written[core]] = x;
            written[core]++;
        }
    }

    private void go(int core, int place) {
        boolean can = object.place(core) < 32 && place >= 0 && place <= 16;
        int[] before = everything();
        Script.due(title + ": go", object.go(core, place) ? 1 : 0, can ? 1 : 0);
        if (can) {
            Script.due(title + ": place", object.place(core), place);
        } else {
            unchanged(before);
        }
    }

    private void step(int core) {
        int[] before = everything();
        int place = object.place(core);
        int a = object.accumulator(core);
        int performed = object.performed();
        int answer = object.step(core);
        if (answer == 0 || answer == 4) {
            Script.due(title + ": refused step", answer, place >= 32 ? 0 : 4);
            unchanged(before);
        }
        if (object.performed() != performed) {
            Script.due(title + ": step that performed", answer, 1);
            performed(core, place, a);
        }
    }

    private void deliver(int k) {
        int[] before = everything();
        int receiver = object.message(k, 2);
        boolean toCore = receiver >= 0 && receiver < 4;
        int place = object.place(receiver);
        int a = object.accumulator(receiver);
        int performed = object.performed();
        int kind = object.message(k, 0);
        int state = object.line(receiver, object.message(k, 3));
        int answer = object.deliver(k);
        if (answer < 0) {
            unchanged(before);
            return;
        }
        Script.due(title + ": deliver", answer, object.messages());
        if (toCore) {
            boolean named = Arrays.asList(COMES_IN[kind - 4].split(" ")).contains(Integer.toString(state));
            Script.due(title + ": kind " + kind + " in state " + state, named ? 1 : 0, 1);
        }
        if (object.performed() != performed) {
            performed(receiver, place - 32, a);
            Script.due(title + ": place after waiting", object.place(receiver), place - 32 + 1);
        }
    }

    /** An access by a core that had the place and the word a before it. */
    private void performed(int core, int place, int a) {
        accesses++;
        Script.due(title + ": performed", object.performed(), accesses);
        int op = ops[core][place];
        int block = xs[core][place];
        int want = op == STORE ? a : oneMemory[block];
        if (op == STORE || op == SWAP) {
            oneMemory[block] = a;
        } else {
            Script.due(title + ": an access", op, LOAD);
        }
        Script.due(title + ": word seen by core " + core, object.accumulator(core), want);
        Script.due(title + ": word of the line", object.word(core, block), oneMemory[block]);
    }

    private void bounds() {
        Script.due(title + ": few messages", object.messages() <= 20 ? 1 : 0, 1);
        for (int c = 0; c < cores; c++) {
            int inUse = 0;
            for (int b = 0; b < 4; b++) {
                inUse += object.line(c, b) != 0 ? 1 : 0;
            }
            Script.due(title + ": lines in use", inUse <= lines ? 1 : 0, 1);
        }
    }

    private void drain() {
        for (int turn = 0; turn < 400 && object.messages() > 0; turn++) {
            for (int k = 0; k < object.messages(); k++) {
                deliver(k);
            }
        }
        Script.due(title + ": messages in the end", object.messages(), 0);
        for (int b = 0; b < 4; b++) {
            atRest(b);
        }
        for (int c = 0; c < cores; c++) {
            Script.due(title + ": nobody waits", object.place(c) < 32 ? 1 : 0, 1);
        }
    }

    private void atRest(int block) {
        int readers = 0;
        int owner = -1;
        for (int c = 0; c < cores; c++) {
            int state = object.line(c, block);
            readers |= state == 1 ? 1 << c : 0;
            owner = state == 2 ? c : owner;
            Script.due(title + ": state at rest", state <= 2 ? 1 : 0, 1);
            Script.due(title + ": word at rest", object.word(c, block), state == 0 ? 0 : oneMemory[block]);
        }
        int home = owner >= 0 ? 2 + 4 * (owner + 1) : readers != 0 ? 1 : 0;
        Script.due(title + ": home at rest", object.home(block), home + 32 * readers);
        if (owner < 0) {
            Script.due(title + ": memory at rest", object.memory(block), oneMemory[block]);
        }
    }

    private int[] everything() {
        int[] all = new int[300];
        int k = 0;
        all[k++] = object.messages();
        all[k++] = object.sent();
        all[k++] = object.performed();
        for (int c = 0; c < cores; c++) {
            all[k++] = object.place(c);
            all[k++] = object.accumulator(c);
            for (int b = 0; b < 4; b++) {
                all[k++] = object.line(c, b);
                all[k++] = object.word(c, b);
            }
        }
        for (int b = 0; b < 4; b++) {
            all[k++] = object.home(b);
            all[k++] = object.memory(b);
        }
        for (int m = 0; m < object.messages(); m++) {
            for (int what = 0; what < 7; what++) {
                all[k++] = object.message(m, what);
            }
        }
        return all;
    }

    private void unchanged(int[] before) {
        Script.due(title + ": nothing changed", Arrays.equals(before, everything()) ? 1 : 0, 1);
    }

    /** Whatever is asked, a call ends without an exception; one that got out would fail the test. */
    private static void anyArguments() {
        WalkTest walk = new WalkTest(7);
        int[] odd = {Integer.MIN_VALUE, -5, -1, 0, 1, 2, 3, 4, 5, 6, 7, 15, 16, 17, 32, Integer.MAX_VALUE};
        for (int call = 0; call < 200000; call++) {
            int x = odd[walk.pick(odd.length)];
            int y = odd[walk.pick(odd.length)];
            int z = odd[walk.pick(odd.length)];
            switch (walk.pick(8)) {
                case 0: walk.object.code(x, y, z); break;
                case 1: walk.object.go(x, y); break;
                case 2: walk.object.step(x); break;
                case 3: walk.object.deliver(x); break;
                case 4: walk.object.message(x, y); break;
                case 5: walk.object.line(x, y); walk.object.word(x, y); break;
                case 6: walk.object.home(x); walk.object.memory(x); break;
                default: walk.object.accumulator(x); walk.object.place(x); break;
            }
        }
    }
}
