import java.util.List;

/** An object under test whose calls are counted, because nothing is promised behind the 512th. */
final class Subject {
    static final int MOST_CALLS = 512;

    private final HomeDirectory object;
    private int calls = 0;

    Subject(int cores, int lines) {
        object = new HomeDirectory(cores, lines);
    }

    /** The same calls always give the same answers, so this one stands where the calls have led another. */
    static Subject after(int cores, int lines, List<Call> done) {
        Subject subject = new Subject(cores, lines);
        for (Call call : done) {
            subject.answer(call);
        }
        return subject;
    }

    int answer(Call call) {
        calls++;
        if (calls > MOST_CALLS) {
            throw new IllegalStateException("a test makes more than " + MOST_CALLS + " calls");
        }
        return call.on(object);
    }

    int answer(String name, int... arguments) {
        return answer(Call.of(name, arguments));
    }

    int calls() {
        return calls;
    }
}
