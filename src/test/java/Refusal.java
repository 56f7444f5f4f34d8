import java.util.List;

/** Calls that are refused: the exception that is due comes, and later calls answer as if they had not been made. */
final class Refusal {
    /** An object is used for so many calls at most. */
    private static final int CALLS = 512;
    private static final int TO_BEGIN = 120;
    private static final int TIMES = 3;

    interface Begin {
        PressbrakeLane lane();
    }

    interface Call {
        long answer(PressbrakeLane lane);
    }

    private final Due due;
    private final Begin begin;
    private final List<String> untouched;

    Refusal(Due due, Begin begin) {
        this.due = due;
        this.begin = begin;
        untouched = Reading.of(begin.lane());
        due.note(TO_BEGIN + TIMES + untouched.size() <= CALLS, untouched.size() + " calls are too many to read");
    }

    void of(String what, Class<?> exception, Call call) {
        PressbrakeLane lane = begin.lane();
        for (int i = 0; i < TIMES; i++) {
            due.fails(what, exception, () -> call.answer(lane));
        }
        List<String> got = Reading.of(lane);
        for (int i = 0; i < got.size(); i++) {
            if (!got.get(i).equals(untouched.get(i))) {
                due.note(false, what + " was refused, but then " + got.get(i) + ", due is " + untouched.get(i));
                return;
            }
        }
        due.note(true, "");
    }

    /** A call that is not refused must show in what is read; otherwise nothing would be told by the reading. */
    void isSeen(String what, Call call) {
        PressbrakeLane lane = begin.lane();
        try {
            call.answer(lane);
            due.note(!Reading.of(lane).equals(untouched), what + " does not show");
        } catch (RuntimeException e) {
            due.note(false, what + " threw " + e);
        }
    }
}
