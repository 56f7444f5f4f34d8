/** Counts what calls answered against what the document asks, and ends a test. */
final class Due {
    static final Class<?> INDEX = IndexOutOfBoundsException.class;
    static final Class<?> ARGUMENT = IllegalArgumentException.class;
    static final Class<?> STATE = IllegalStateException.class;

    interface Call {
        long answer();
    }

    private final String name;
    private int passed;
    private int failed;

    Due(String name) {
        this.name = name;
    }

    void is(String what, long due, Call call) {
        try {
            long got = call.answer();
            note(got == due, what + " answered " + got + ", due is " + due);
        } catch (RuntimeException e) {
            note(false, what + " threw " + e + ", due is " + due);
        }
    }

    /** The exact class is due: the machine's own exceptions are below IndexOutOfBoundsException. */
    void fails(String what, Class<?> due, Call call) {
        try {
            long got = call.answer();
            note(false, what + " answered " + got + ", due is " + due);
        } catch (RuntimeException e) {
            note(e.getClass() == due, what + " threw " + e + ", due is " + due);
        }
    }

    void note(boolean isRight, String complaint) {
        if (isRight) {
            passed++;
        } else {
            failed++;
            System.out.println(complaint);
        }
    }

    void end() {
        System.out.println(name + ": " + passed + " passed, " + failed + " failed");
        if (failed > 0 || passed == 0) {
            System.exit(1);
        }
    }
}
