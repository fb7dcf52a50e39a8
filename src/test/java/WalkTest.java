import java.util.ArrayList;
import java.util.Arrays;
import java.util.List;

/**
 * Walks of calls in a made-up order: every access sees the one memory, a refused call changes
 * nothing, only what the document names can happen, and the network always empties in the end.
 */
public final class WalkTest {
    private static final int LOAD = 0;
    private static final int STORE = 1;
    private static final int SWAP = 5;
    private static final int HOME = 4;
    /** For each kind from FWDS on the states of a line in which it may come in. */
    private static final String[] COMES_IN = {"4 5 6 7 2 8", "4 5 6 7 2 8", "3 1 6 9", "8 9 10", "3 4 6", "4 6 5 7"};

    private final int cores;
    private final int lines;
    private final String title;
    private final int[][] ops;
    private final int[][] xs;
    private final int[] written;
    private final int[] oneMemory = new int[4];
    private final List<Call> done = new ArrayList<>();
    private Snapshot now;
    private long seed;
    private int accesses = 0;

    private WalkTest(int number) {
        seed = number;
        title = "walk " + number;
        cores = 2 + number % 3;
        lines = 1 + number / 3 % 3;
        ops = new int[cores][16];
        xs = new int[cores][16];
        written = new int[cores];
        now = new Snapshot(new Subject(cores, lines));
    }

    public static void main(String[] args) {
        for (int number = 0; number < 1500; number++) {
            new WalkTest(number).walk(number % 10 == 0 ? 250 : 100);
        }
        anyArguments();
        Script.finish();
    }

    private int pick(int bound) {
        seed = seed * 6364136223846793005L + 1442695040888963407L;
        return (int) ((seed >>> 33) % bound);
    }

    private void walk(int calls) {
        int blocks = 1 + pick(4);
        for (int c = 0; c < cores; c++) {
            for (int k = 0; k < 12; k++) {
                write(c, blocks);
            }
        }
        for (int call = 0; call < calls; call++) {
            int choice = pick(20);
            if (choice < 9) {
                step(pick(cores));
            } else if (choice < 18) {
                deliver(pick(now.messages() + 2) - 1);
            } else if (choice < 19) {
                go(pick(cores), pick(20) - 2);
            } else {
                write(pick(cores), blocks);
            }
            bounds();
        }
        drain();
    }

    /** Every call and every look at all answers is on an object of its own, which saves calls of the 512. */
    private int call(String name, int... arguments) {
        Call call = Call.of(name, arguments);
        Subject subject = Subject.after(cores, lines, done);
        int answer = subject.answer(call);
        Snapshot next = new Snapshot(subject);
        if (call.changesNothing(answer)) {
            Script.due(title + ": unchanged by " + call, next.isSameAs(now) ? 1 : 0, 1);
        } else {
            done.add(call);
            now = next;
        }
        return answer;
    }

    private void write(int core, int blocks) {
        int op = pick(6);
        int x = op == 2 || op == 4 ? pick(9) - 4 : op == 3 ? pick(16) : pick(blocks);
        boolean room = written[core] < 16;
        Script.due(title + ": code", call("code", core, op, x), room ? 1 : 0);
        if (room) {
            ops[core][written[core]] = op;
            xs[core][written[core]] = x;
            written[core]++;
        }
    }

    private void go(int core, int place) {
        boolean can = now.place(core) < 32 && place >= 0 && place <= 16;
        Script.due(title + ": go", call("go", core, place), can ? 1 : 0);
        if (can) {
            Script.due(title + ": place", now.place(core), place);
        }
    }

    private void step(int core) {
        Snapshot before = now;
        int place = before.place(core);
        int answer = call("step", core);
        if (answer == 0 || answer == 4) {
            Script.due(title + ": refused step", answer, place >= 32 ? 0 : 4);
        }
        if (now.performed() != before.performed()) {
            Script.due(title + ": step that performed", answer, 1);
            performed(core, place, before.accumulator(core));
        }
    }

    private void deliver(int k) {
        Snapshot before = now;
        int answer = call("deliver", k);
        if (answer < 0) {
            return;
        }
        Script.due(title + ": deliver", answer, now.messages());
        int receiver = before.message(k, 2);
        if (receiver == HOME) {
            Script.due(title + ": performed by the home", now.performed(), before.performed());
            return;
        }
        comesIn(before.message(k, 0), before.line(receiver, before.message(k, 3)));
        if (now.performed() != before.performed()) {
            int place = before.place(receiver) - 32;
            performed(receiver, place, before.accumulator(receiver));
            Script.due(title + ": place after waiting", now.place(receiver), place + 1);
        }
    }

    private void comesIn(int kind, int state) {
        boolean named = Arrays.asList(COMES_IN[kind - 4].split(" ")).contains(Integer.toString(state));
        Script.due(title + ": kind " + kind + " in state " + state, named ? 1 : 0, 1);
    }

    /** An access by a core that had the place and the word a before it. */
    private void performed(int core, int place, int a) {
        accesses++;
        Script.due(title + ": performed", now.performed(), accesses);
        int op = ops[core][place];
        int block = xs[core][place];
        int want = op == STORE ? a : oneMemory[block];
        if (op == STORE || op == SWAP) {
            oneMemory[block] = a;
        } else {
            Script.due(title + ": an access", op, LOAD);
        }
        Script.due(title + ": word seen by core " + core, now.accumulator(core), want);
        Script.due(title + ": word of the line", now.word(core, block), oneMemory[block]);
    }

    private void bounds() {
        Script.due(title + ": few messages", now.messages() <= 20 ? 1 : 0, 1);
        for (int c = 0; c < cores; c++) {
            int inUse = 0;
            for (int b = 0; b < 4; b++) {
                inUse += now.line(c, b) != 0 ? 1 : 0;
            }
            Script.due(title + ": lines in use", inUse <= lines ? 1 : 0, 1);
        }
    }

    private void drain() {
        for (int turn = 0; turn < 400 && now.messages() > 0; turn++) {
            for (int k = 0; k < now.messages(); k++) {
                deliver(k);
            }
        }
        Script.due(title + ": messages in the end", now.messages(), 0);
        for (int b = 0; b < 4; b++) {
            atRest(b);
        }
        for (int c = 0; c < cores; c++) {
            Script.due(title + ": nobody waits", now.place(c) < 32 ? 1 : 0, 1);
        }
    }

    private void atRest(int block) {
        int readers = 0;
        int owner = -1;
        for (int c = 0; c < cores; c++) {
            int state = now.line(c, block);
            readers |= state == 1 ? 1 << c : 0;
            owner = state == 2 ? c : owner;
            Script.due(title + ": state at rest", state <= 2 ? 1 : 0, 1);
            Script.due(title + ": word at rest", now.word(c, block), state == 0 ? 0 : oneMemory[block]);
        }
        int home = owner >= 0 ? 2 + 4 * (owner + 1) : readers != 0 ? 1 : 0;
        Script.due(title + ": home at rest", now.home(block), home + 32 * readers);
        if (owner < 0) {
            Script.due(title + ": memory at rest", now.memory(block), oneMemory[block]);
        }
    }

    /**
     * Whatever is asked, and however often, a call ends without an exception; one that got out would
     * fail the test. What is answered is not looked at, so that there may be more than 512 calls.
     */
    private static void anyArguments() {
        int[] odd = {Integer.MIN_VALUE, -5, -1, 0, 1, 2, 3, 4, 5, 6, 7, 15, 16, 17, 32, Integer.MAX_VALUE};
        String[] names = {"code", "go", "step", "deliver", "messages", "message", "line", "word", "home", "memory",
            "accumulator", "place", "sent", "performed"};
        for (int number = 0; number < 60; number++) {
            WalkTest walk = new WalkTest(number);
            HomeDirectory object = new HomeDirectory(odd[walk.pick(odd.length)], odd[walk.pick(odd.length)]);
            for (int call = 0; call < 5000; call++) {
                String name = names[walk.pick(names.length)];
                Call.of(name, odd[walk.pick(odd.length)], odd[walk.pick(odd.length)], odd[walk.pick(odd.length)]).on(object);
            }
        }
    }
}
