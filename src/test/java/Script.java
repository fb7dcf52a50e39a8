import java.util.ArrayList;
import java.util.List;

/**
 * Runs of calls written as text. A row holds calls parted by ';', each with the answer that is due
 * ("deliver 0 = STALLED") or without one ("code 0 LOAD 2"); true and false count 1 and 0.
 * The row "settle" delivers whatever can be delivered until nothing can.
 * Of every question and every refused call it is tested too that it changes nothing, and the whole
 * run is made again with other cores and blocks in the places of those that it names.
 */
final class Script {
    private static int wrong = 0;

    private final String title;
    private final Renaming names;
    private final int cores;
    private final int lines;
    private final Subject subject;
    private final List<Call> done = new ArrayList<>();

    private Script(String title, Renaming names, int cores, int lines) {
        this.title = title;
        this.names = names;
        this.cores = cores;
        this.lines = lines;
        subject = new Subject(cores, lines);
    }

    static void run(String title, int cores, int lines, String... rows) {
        if (cores < 2 || cores > 4) {
            new Script(title, Renaming.of(Math.max(2, Math.min(4, cores)))[0], cores, lines).readRows(rows);
            return;
        }
        for (Renaming names : Renaming.of(cores)) {
            new Script(title, names, names.cores(), lines).readRows(rows);
        }
    }

    static void due(String what, long got, long want) {
        if (got != want) {
            wrong++;
            System.out.println(what + " answered " + got + ", due is " + want);
        }
    }

    static void finish() {
        System.out.println(wrong == 0 ? "all answers are as due" : wrong + " answers are not as due");
        if (wrong != 0) {
            System.exit(1);
        }
    }

    private void readRows(String... rows) {
        for (String row : rows) {
            for (String text : row.split(";")) {
                if (!text.isBlank()) {
                    read(text.trim());
                }
            }
        }
    }

    private void read(String text) {
        if (text.equals("settle")) {
            settle();
            return;
        }
        String[] sides = text.split("=");
        Call given = Call.parse(sides[0]);
        int got = call(names.call(given));
        if (sides.length > 1) {
            due(title + ": " + names.call(given), got, names.answer(given, Call.value(sides[1].trim())));
        }
    }

    private void settle() {
        int k = 0;
        int answer = call(Call.of("deliver", k));
        while (answer != HomeDirectory.NONE) {
            k = answer < 0 ? k + 1 : 0;
            answer = call(Call.of("deliver", k));
        }
    }

    private int call(Call call) {
        int answer = subject.answer(call);
        if (call.changesNothing(answer)) {
            due(title + ": unchanged by " + call, Unchanged.by(call, cores, lines, done) ? 1 : 0, 1);
        } else {
            done.add(call);
        }
        return answer;
    }
}
