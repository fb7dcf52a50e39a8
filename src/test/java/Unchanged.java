import java.util.ArrayList;
import java.util.List;

/**
 * Whether a call leaves an object as it is: all questions are answered alike with it and without it,
 * and so is what each core then does at all its places, which shows what no question tells (the
 * instructions, the missing answers of a line, which line was used least lately).
 */
final class Unchanged {
    private final int cores;
    private final int lines;
    private final List<Call> without;
    private final List<Call> with;

    private Unchanged(int cores, int lines, List<Call> done, Call call) {
        this.cores = cores;
        this.lines = lines;
        without = done;
        with = new ArrayList<>(done);
        with.add(call);
    }

    static boolean by(Call call, int cores, int lines, List<Call> done) {
        Unchanged check = new Unchanged(cores, lines, done, call);
        boolean same = check.now(check.with).isSameAs(check.now(check.without));
        for (int core = 0; core < 4; core++) {
            same &= check.later(check.with, core).equals(check.later(check.without, core));
        }
        return same;
    }

    private Snapshot now(List<Call> calls) {
        return new Snapshot(Subject.after(cores, lines, calls));
    }

    /** What is answered when the network empties and the core goes through all its places. */
    private List<Integer> later(List<Call> calls, int core) {
        Subject subject = Subject.after(cores, lines, calls);
        List<Integer> answers = new ArrayList<>();
        int most = Subject.MOST_CALLS - with.size();
        empty(subject, answers, most);
        for (int place = 0; place < 16 && answers.size() + 3 <= most; place++) {
            answers.add(subject.answer("go", core, place));
            answers.add(subject.answer("step", core));
            answers.add(subject.answer("accumulator", core));
            empty(subject, answers, most);
        }
        return answers;
    }

    private static void empty(Subject subject, List<Integer> answers, int most) {
        int k = 0;
        while (answers.size() < most) {
            int answer = subject.answer("deliver", k);
            answers.add(answer);
            if (answer == HomeDirectory.NONE) {
                return;
            }
            k = answer < 0 ? k + 1 : 0;
        }
    }
}
