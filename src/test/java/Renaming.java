/**
 * Other names for the cores and blocks of a script. Which numbers they bear makes no difference, but
 * for the order of the INVs, which is kept: with two cores there is one INV at most, and three keep
 * their order. So a script that holds must hold under every one of these.
 */
final class Renaming {
    /** Four of each: what the cores 0, 1, .. are called. */
    private static final int[][] OF_TWO = {{0, 1}, {1, 2}, {2, 3}, {3, 0}};
    private static final int[][] OF_THREE = {{0, 1, 2}, {1, 2, 3}, {0, 2, 3}, {0, 1, 3}};
    private static final int[] OF_FOUR = {0, 1, 2, 3};
    private static final int HOME = 4;

    private final int cores;
    private final int[] names;
    private final int turn;

    private Renaming(int cores, int[] names, int turn) {
        this.cores = cores;
        this.names = names;
        this.turn = turn;
    }

    /** The first one leaves everything as it is, the others take four cores; made from 2 to 4 cores. */
    static Renaming[] of(int cores) {
        Renaming[] all = new Renaming[4];
        for (int turn = 0; turn < 4; turn++) {
            int[] names = cores == 2 ? OF_TWO[turn] : cores == 3 ? OF_THREE[turn] : OF_FOUR;
            all[turn] = new Renaming(turn == 0 ? cores : 4, names, turn);
        }
        return all;
    }

    int cores() {
        return cores;
    }

    Call call(Call given) {
        switch (given.name()) {
            case "code": return Call.of("code", core(given.x()), given.y(), isAccess(given.y()) ? block(given.z()) : given.z());
            case "line":
            case "word": return Call.of(given.name(), core(given.x()), block(given.y()));
            case "go": return Call.of("go", core(given.x()), given.y());
            case "step":
            case "accumulator":
            case "place": return Call.of(given.name(), core(given.x()));
            case "home":
            case "memory": return Call.of(given.name(), block(given.x()));
            default: return given;
        }
    }

    /** The answer that is due to a call under these names, from the one that was due to the given call. */
    int answer(Call given, int due) {
        if (given.name().equals("home")) {
            return home(due);
        }
        if (!given.name().equals("message") || due == HomeDirectory.NONE) {
            return due;
        }
        switch (given.y()) {
            case 1:
            case 2:
            case 6: return due == HOME ? HOME : names[due];
            case 3: return block(due);
            default: return due;
        }
    }

    private static boolean isAccess(int op) {
        return op == 0 || op == 1 || op == 5;
    }

    /** What was no core before is none now, as near to the last one as before. */
    private int core(int core) {
        if (core < 0 || core > 100) {
            return core;
        }
        return core < names.length ? names[core] : core + cores - names.length;
    }

    private int block(int block) {
        return block < 0 || block > 3 ? block : (block + turn) % 4;
    }

    private int home(int due) {
        if (due < 0) {
            return due;
        }
        int state = due & 3;
        int sharers = 0;
        for (int c = 0; c < names.length; c++) {
            sharers |= (due >> 5 + c & 1) << names[c];
        }
        return state + (state == 2 ? 4 * (names[(due >> 2 & 7) - 1] + 1) : 0) + 32 * sharers;
    }
}
