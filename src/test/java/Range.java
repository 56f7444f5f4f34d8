/** Tries a call with one argument at the edges of its range and beyond them. */
final class Range {
    interface Call {
        /** Makes an object of its own, and calls it with the argument. */
        long answer(int argument);
    }

    private Range() {
    }

    static void check(Due due, String what, Class<?> beyond, int low, int high, long atLow, long atHigh, Call call) {
        due.is(what + " " + low, atLow, () -> call.answer(low));
        due.is(what + " " + high, atHigh, () -> call.answer(high));
        // The last ones come into the range, if only their lower bits are looked at.
        long[] tried = {low - 1L, high + 1L, -1, Integer.MIN_VALUE, Integer.MAX_VALUE, Integer.MIN_VALUE + (long) low,
            low + (1L << 8), low - (1L << 8), low + (1L << 16), low - (1L << 16)};
        for (long value : tried) {
            if (value < low || value > high) {
                due.fails(what + " " + value, beyond, () -> call.answer((int) value));
            }
        }
    }
}
