/** Counts what calls answered against what the document asks, and ends a test. */
final class Due {
    static final Class<?> INDEX = IndexOutOfBoundsException.class;
    static final Class<?> ARGUMENT = IllegalArgumentException.class;
    static final Class<?> STATE = IllegalStateException.class;

    interface Call {
        long answer();
    }

    private final String name;
    private int passed;
    private int failed;

    Due(String name) {
        this.name = name;
    }

    void is(String what, long due, Call call) {
        try {
            long got = call.answer();
            note(got == due, what + " answered " + got + ", due is " + due);
        } catch (RuntimeException e) {
            note(false, what + " threw " + e + ", due is " + due);
        }
    }

    /** The exact class is due: the machine's own exceptions are below IndexOutOfBoundsException. */
    void fails(String what, Class<?> due, Call call) {
        try {
            long got = call.answer();
            note(false, what + " answered " + got + ", due is " + due);
        } catch (RuntimeException e) {
            note(e.getClass() == due, what + " threw " + e + ", due is " + due);
        }
    }

    /** What batchOf tells: how a batch is, its pieces, its revision, its blanks; or only the first of these. */
    void batch(String what, PressbrakeLane lane, int batch, int... due) {
        for (int i = 0; i < due.length; i++) {
            int asked = i;
            is(what + ", " + i, due[i], () -> lane.batchOf(batch, asked));
        }
    }

    /** The order of the part 0, by all calls that tell of it; without bends where there is none. */
    void order(String what, PressbrakeLane lane, int tool, int turns, int... bends) {
        is(what + ", flips", turns, () -> lane.flips(0, tool));
        is(what + ", flipsAnew", turns, () -> lane.flipsAnew(0, tool));
        for (int i = 0; i < bends.length; i++) {
            int place = i;
            is(what + ", place " + i, bends[i], () -> lane.ordered(0, tool, place));
        }
        is(what + ", just behind the last place", PressbrakeLane.NONE, () -> lane.ordered(0, tool, bends.length));
        is(what + ", at the largest place", PressbrakeLane.NONE, () -> lane.ordered(0, tool, Integer.MAX_VALUE));
        fails(what + ", at -1", INDEX, () -> lane.ordered(0, tool, -1));
        fails(what + ", at the lowest int", INDEX, () -> lane.ordered(0, tool, Integer.MIN_VALUE));
    }

    void note(boolean isRight, String complaint) {
        if (isRight) {
            passed++;
        } else {
            failed++;
            System.out.println(complaint);
        }
    }

    void end() {
        System.out.println(name + ": " + passed + " passed, " + failed + " failed");
        if (failed > 0 || passed == 0) {
            System.exit(1);
        }
    }
}
