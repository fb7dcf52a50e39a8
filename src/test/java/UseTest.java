/** What it is: an object is used for 512 calls, and all of them are answered as the document says. */
public final class UseTest {
    private static final int LAST = Subject.MOST_CALLS;

    private final String title;
    private final Subject subject;

    private UseTest(String title, int cores, int lines) {
        this.title = title;
        subject = new Subject(cores, lines);
    }

    public static void main(String[] args) {
        nothingButAccesses();
        nothingButAdds();
        aWordThatGoesToAndFro();
        linesReplacedAgainAndAgain();
        theLeastLatelyUsedBehindManyAccesses();
        manyMessages();
        nothingButQuestions();
        nothingButRefusals();
        theLastCallIsRefused();
        Script.finish();
    }

    private void due(int want, String name, int... arguments) {
        int got = subject.answer(name, arguments);
        Script.due(title + ": call " + subject.calls() + ", " + name, got, want);
    }

    private int left() {
        return LAST - subject.calls();
    }

    /** All 512 calls are made, not more and not fewer. */
    private void ends() {
        Script.due(title + ": calls that are left", left(), 0);
    }

    private static void nothingButAccesses() {
        UseTest run = new UseTest("accesses", 2, 1);
        run.due(1, "code", 0, 4, 6);
        run.due(1, "code", 0, 1, 0);
        run.due(1, "code", 0, 0, 0);
        run.due(1, "code", 0, 3, 2);
        run.due(1, "step", 0);
        run.due(2, "step", 0);
        run.due(1, "deliver", 0);
        run.due(0, "deliver", 0);
        int accesses = 1;
        while (run.left() > 3) {
            run.due(1, "step", 0);
            run.due(1, "step", 0);
            accesses++;
        }
        run.due(2, "place", 0);
        run.due(accesses, "performed");
        ask(run, 6);
    }

    private static void ask(UseTest run, int accumulator) {
        while (run.left() > 0) {
            run.due(accumulator, "accumulator", 0);
        }
        run.ends();
    }

    private static void nothingButAdds() {
        UseTest run = new UseTest("adds", 2, 1);
        run.due(1, "code", 0, 2, 1 << 24);
        run.due(1, "code", 0, 3, 0);
        int sum = 0;
        while (run.left() > 3) {
            run.due(1, "step", 0);
            run.due(1, "step", 0);
            sum += 1 << 24;
        }
        ask(run, sum);
    }

    private static void aWordThatGoesToAndFro() {
        UseTest run = new UseTest("to and fro", 2, 1);
        int[] a = {5, 9};
        int memory = 0;
        for (int c = 0; c < 2; c++) {
            run.due(1, "code", c, 4, a[c]);
            run.due(1, "code", c, 5, 3);
            run.due(1, "step", c);
        }
        int turn = 0;
        int sent = 0;
        while (run.left() >= 8) {
            int c = turn % 2;
            run.due(1, "go", c, 1);
            run.due(2, "step", c);
            run.due(1, "deliver", 0);
            if (turn > 0) {
                run.due(1, "deliver", 0);
            }
            run.due(0, "deliver", 0);
            sent += turn > 0 ? 3 : 2;
            int given = a[c];
            a[c] = memory;
            memory = given;
            turn++;
        }
        run.due(sent, "sent");
        run.due(turn, "performed");
        run.due(a[1], "accumulator", 1);
        ask(run, a[0]);
    }

    private static void linesReplacedAgainAndAgain() {
        UseTest run = new UseTest("replaced", 2, 1);
        run.due(1, "code", 0, 2, 1);
        run.due(1, "code", 0, 1, 0);
        run.due(1, "code", 0, 1, 3);
        run.due(1, "code", 0, 3, 0);
        int rounds = 0;
        while (run.left() >= 20) {
            run.due(1, "step", 0);
            putBack(run, rounds > 0);
            fetch(run);
            putBack(run, true);
            fetch(run);
            run.due(1, "step", 0);
            rounds++;
        }
        run.due(rounds, "memory", 0);
        run.due(rounds - 1, "memory", 3);
        run.due(rounds, "word", 0, 3);
        run.due(8 * rounds - 2, "sent");
        run.due(2 * rounds, "performed");
        ask(run, rounds);
    }

    private static void putBack(UseTest run, boolean inUse) {
        if (inUse) {
            run.due(3, "step", 0);
            run.due(1, "deliver", 0);
            run.due(0, "deliver", 0);
        }
    }

    private static void fetch(UseTest run) {
        run.due(2, "step", 0);
        run.due(1, "deliver", 0);
        run.due(0, "deliver", 0);
    }

    /** Three lines are used in turn, however often, and then a fourth one is wanted. */
    private static void theLeastLatelyUsedBehindManyAccesses() {
        for (int accesses = 3; accesses <= 450; accesses++) {
            UseTest run = new UseTest("replaced behind " + accesses + " accesses", 2, 3);
            for (int k = 0; k < 15; k++) {
                run.due(1, "code", 0, 0, k % 3);
            }
            run.due(1, "code", 0, 0, 3);
            useInTurn(run, accesses);
            run.due(accesses, "performed");
            run.due(1, "go", 0, 15);
            run.due(3, "step", 0);
            run.due(accesses % 3, "message", 0, 3);
            run.due(9, "line", 0, accesses % 3);
        }
    }

    private static void useInTurn(UseTest run, int accesses) {
        for (int k = 0; k < accesses; k++) {
            if (k > 0 && k % 15 == 0) {
                run.due(1, "go", 0, 0);
            }
            if (k < 3) {
                fetch(run);
            } else {
                run.due(1, "step", 0);
            }
        }
    }

    /** Core 3 writes and the others read, so that nearly every call sends or delivers. */
    private static void manyMessages() {
        UseTest run = new UseTest("many messages", 4, 1);
        for (int k = 0; k < 8; k++) {
            for (int c = 0; c < 4; c++) {
                run.due(1, "code", c, c == 3 ? 5 : 0, 0);
            }
        }
        int rounds = 0;
        while (run.left() >= 28) {
            for (int c = 0; c < 4 && rounds > 0 && rounds % 8 == 0; c++) {
                run.due(1, "go", c, 0);
            }
            run.due(2, "step", 3);
            run.deliveries(rounds == 0 ? "1 0" : "4 3 3 3 3 2 1 0");
            run.due(2, "step", 0);
            run.deliveries("1 2 1 0");
            run.due(2, "step", 1);
            run.deliveries("1 0");
            run.due(2, "step", 2);
            run.deliveries("1 0");
            rounds++;
        }
        run.due(16 * rounds - 6, "sent");
        run.due(4 * rounds, "performed");
        run.due(1 + 32 * 15, "home", 0);
    }

    /** The first message is delivered as often as answers are due. */
    private void deliveries(String answers) {
        for (String answer : answers.split(" ")) {
            due(Integer.parseInt(answer), "deliver", 0);
        }
    }

    private static void nothingButQuestions() {
        UseTest run = new UseTest("questions", 4, 3);
        while (run.left() >= 12) {
            run.due(0, "messages");
            run.due(-1, "message", 0, 0);
            run.due(0, "line", 3, 3);
            run.due(0, "word", 3, 3);
            run.due(0, "home", 3);
            run.due(0, "memory", 3);
            run.due(0, "place", 3);
            run.due(0, "sent");
            run.due(0, "performed");
        }
        run.due(1, "code", 0, 4, 8);
        run.due(1, "step", 0);
        ask(run, 8);
    }

    private static void nothingButRefusals() {
        UseTest run = new UseTest("refusals", 2, 1);
        while (run.left() >= 12) {
            run.due(0, "code", 0, 6, 0);
            run.due(0, "code", 2, 0, 0);
            run.due(0, "go", 0, 17);
            run.due(-1, "step", 2);
            run.due(4, "step", 0);
            run.due(-1, "deliver", 0);
        }
        run.due(1, "code", 0, 4, 8);
        run.due(1, "step", 0);
        run.due(4, "step", 0);
        run.due(1, "place", 0);
        ask(run, 8);
    }

    private static void theLastCallIsRefused() {
        UseTest run = new UseTest("the last call is refused", 2, 1);
        run.due(1, "code", 0, 0, 0);
        run.due(2, "step", 0);
        while (run.left() > 1) {
            run.due(0, "step", 0);
        }
        run.due(-1, "deliver", 1);
        run.ends();
    }
}
