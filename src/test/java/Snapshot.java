import java.util.Arrays;

/** What every question of the face answers at one moment. */
final class Snapshot {
    private final int[] counts;
    private final int[] places = new int[4];
    private final int[] accumulators = new int[4];
    private final int[] homes = new int[4];
    private final int[] memories = new int[4];
    private final int[][] lines = new int[4][4];
    private final int[][] words = new int[4][4];
    private final int[][] messages;

    Snapshot(Subject subject) {
        counts = new int[] {subject.answer("messages"), subject.answer("sent"), subject.answer("performed")};
        messages = new int[counts[0]][7];
        for (int k = 0; k < 4; k++) {
            places[k] = subject.answer("place", k);
            accumulators[k] = subject.answer("accumulator", k);
            homes[k] = subject.answer("home", k);
            memories[k] = subject.answer("memory", k);
            for (int block = 0; block < 4; block++) {
                lines[k][block] = subject.answer("line", k, block);
                words[k][block] = subject.answer("word", k, block);
            }
        }
        for (int k = 0; k < messages.length; k++) {
            for (int what = 0; what < 7; what++) {
                messages[k][what] = subject.answer("message", k, what);
            }
        }
    }

    boolean isSameAs(Snapshot other) {
        return Arrays.deepEquals(table(), other.table());
    }

    private Object[] table() {
        return new Object[] {counts, places, accumulators, homes, memories, lines, words, messages};
    }

    int messages() {
        return messages.length;
    }

    int message(int k, int what) {
        return messages[k][what];
    }

    int performed() {
        return counts[2];
    }

    int place(int core) {
        return places[core];
    }

    int accumulator(int core) {
        return accumulators[core];
    }

    int line(int core, int block) {
        return lines[core][block];
    }

    int word(int core, int block) {
        return words[core][block];
    }

    int home(int block) {
        return homes[block];
    }

    int memory(int block) {
        return memories[block];
    }
}
