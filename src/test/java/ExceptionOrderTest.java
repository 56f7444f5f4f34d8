/** "If several exceptions apply to a call, the one that its comment lists first is thrown", and nothing is changed. */
public final class ExceptionOrderTest {
    private static final int UP = PressbrakeLane.UP;
    private static final Due DUE = new Due("ExceptionOrderTest");

    public static void main(String[] args) {
        Refusal full = new Refusal(DUE, Lanes::full);
        Refusal bare = new Refusal(DUE, Lanes::bare);
        Refusal ordinary = new Refusal(DUE, Lanes::ordinary);
        face(full);
        part(full, bare);
        redraw(ordinary, bare);
        hole(ordinary, full);
        told(ordinary);
        tool(full);
        trial(ordinary);
        why(ordinary);
        point(ordinary);
        want(full);
        nest(ordinary);
        batch(full);
        batchOf(ordinary);
        take(ordinary);
        DUE.end();
    }

    private static void face(Refusal full) {
        full.of("face: length, 6 faces", Due.ARGUMENT, x -> x.face(9, UP));
        full.of("face: length above, 6 faces", Due.ARGUMENT, x -> x.face(201, UP));
        full.of("face: direction, 6 faces", Due.ARGUMENT, x -> x.face(10, 2));
        full.of("face: direction below, 6 faces", Due.ARGUMENT, x -> x.face(10, -1));
    }

    private static void part(Refusal full, Refusal bare) {
        bare.of("part: width, empty pad", Due.ARGUMENT, x -> x.part(9, 1));
        bare.of("part: thickness, empty pad", Due.ARGUMENT, x -> x.part(10, 5));
        full.of("part: width, 8 parts", Due.ARGUMENT, x -> x.part(301, 1));
        full.of("part: thickness, 8 parts", Due.ARGUMENT, x -> x.part(10, 0));
        Refusal fullAndWiped = new Refusal(DUE, ExceptionOrderTest::fullAndWiped);
        fullAndWiped.of("part: width, empty pad, 8 parts", Due.ARGUMENT, x -> x.part(9, 1));
        fullAndWiped.of("part: empty pad, 8 parts", Due.STATE, x -> x.part(10, 1));
    }

    private static PressbrakeLane fullAndWiped() {
        PressbrakeLane lane = Lanes.full();
        lane.wipe();
        return lane;
    }

    private static void redraw(Refusal ordinary, Refusal bare) {
        ordinary.of("redraw: part, width", Due.INDEX, x -> x.redraw(3, 9, 1));
        ordinary.of("redraw: part, thickness", Due.INDEX, x -> x.redraw(-1, 10, 5));
        bare.of("redraw: part, empty pad", Due.INDEX, x -> x.redraw(3, 10, 1));
        bare.of("redraw: part, width, thickness, empty pad", Due.INDEX, x -> x.redraw(-1, 301, 0));
        bare.of("redraw: width, empty pad", Due.ARGUMENT, x -> x.redraw(0, 301, 1));
        bare.of("redraw: thickness, empty pad", Due.ARGUMENT, x -> x.redraw(0, 10, 0));
    }

    private static void hole(Refusal ordinary, Refusal full) {
        ordinary.of("hole: part, at", Due.INDEX, x -> x.hole(3, 0, 0, 5));
        ordinary.of("hole: part, diameter", Due.INDEX, x -> x.hole(-1, 0, 5, 21));
        ordinary.of("hole: face, at", Due.INDEX, x -> x.hole(1, 2, 0, 5));
        ordinary.of("hole: face, diameter", Due.INDEX, x -> x.hole(1, -1, 5, 0));
        ordinary.of("hole: face, a batch", Due.INDEX, x -> x.hole(0, 3, 5, 5));
        ordinary.of("hole: face, at, diameter, a batch", Due.INDEX, x -> x.hole(0, 3, 0, 0));
        ordinary.of("hole: at, a batch", Due.ARGUMENT, x -> x.hole(0, 0, 50, 5));
        ordinary.of("hole: diameter, a batch", Due.ARGUMENT, x -> x.hole(0, 0, 5, 21));
        full.of("hole: face, 6 holes", Due.INDEX, x -> x.hole(1, 2, 5, 5));
        full.of("hole: at, 6 holes", Due.ARGUMENT, x -> x.hole(1, 0, 0, 5));
        full.of("hole: diameter, 6 holes", Due.ARGUMENT, x -> x.hole(1, 0, 5, 0));
    }

    private static void told(Refusal ordinary) {
        ordinary.of("told: part, what above", Due.INDEX, x -> x.told(3, 6));
        ordinary.of("told: part, what below", Due.INDEX, x -> x.told(-1, -1));
    }

    private static void tool(Refusal full) {
        full.of("tool: opening, 4 tools", Due.ARGUMENT, x -> x.tool(61, 0, 10, 10, 20));
        full.of("tool: punch, 4 tools", Due.ARGUMENT, x -> x.tool(4, -1, 10, 10, 20));
        full.of("tool: die, 4 tools", Due.ARGUMENT, x -> x.tool(4, 0, 201, 10, 20));
        full.of("tool: table, 4 tools", Due.ARGUMENT, x -> x.tool(4, 0, 10, 9, 20));
        full.of("tool: gauge, 4 tools", Due.ARGUMENT, x -> x.tool(4, 0, 10, 10, 601));
    }

    private static void trial(Refusal ordinary) {
        ordinary.of("trial: tool, thickness", Due.INDEX, x -> x.trial(2, 0, 5));
        ordinary.of("trial: tool, deduction", Due.INDEX, x -> x.trial(-1, 1, 10));
    }

    private static void why(Refusal ordinary) {
        ordinary.of("why: part, done", Due.INDEX, x -> x.why(3, 0, 1, 0));
        ordinary.of("why: tool, done", Due.INDEX, x -> x.why(0, 2, 1, 0));
        ordinary.of("why: bend, done has it", Due.INDEX, x -> x.why(0, 0, 4, 2));
        ordinary.of("why: bend below, done", Due.INDEX, x -> x.why(0, 0, -1, -1));
        ordinary.of("why: bend of a part of one face, done", Due.INDEX, x -> x.why(2, 0, 1, 0));
    }

    private static void point(Refusal ordinary) {
        ordinary.of("point: part, done", Due.INDEX, x -> x.point(3, 1, 0, true, 0, true));
        ordinary.of("point: bend, done has it", Due.INDEX, x -> x.point(0, 4, 2, true, 0, true));
        ordinary.of("point: bend below, done", Due.INDEX, x -> x.point(0, -1, -1, false, 0, false));
        ordinary.of("point: place to the right, done", Due.INDEX, x -> x.point(0, 1, 0, true, 2, true));
        ordinary.of("point: place to the left, done", Due.INDEX, x -> x.point(0, 4, 0, false, 1, true));
        ordinary.of("point: place below 0, done", Due.INDEX, x -> x.point(0, 1, 0, true, -1, false));
    }

    private static void want(Refusal full) {
        full.of("want: part, many", Due.INDEX, x -> x.want(8, 0));
        full.of("want: part, 40 pieces", Due.INDEX, x -> x.want(-1, 1));
        full.of("want: part, many, 40 pieces", Due.INDEX, x -> x.want(8, 41));
        full.of("want: many, 40 pieces", Due.ARGUMENT, x -> x.want(0, 41));
        full.of("want: the largest many, 40 pieces", Due.ARGUMENT, x -> x.want(0, Integer.MAX_VALUE));
    }

    private static void nest(Refusal ordinary) {
        ordinary.of("nest: tool, length", Due.INDEX, x -> x.nest(2, 49, 49, 0));
        ordinary.of("nest: tool, width", Due.INDEX, x -> x.nest(-1, 100, 101, 0));
        ordinary.of("nest: tool, what", Due.INDEX, x -> x.nest(2, 100, 100, 4));
        // Pieces of 90 x 60 and longer don't fit, but NONE is an answer and no exception.
        ordinary.of("nest: what, a piece is too long", Due.ARGUMENT, x -> x.nest(0, 50, 50, 4));
        ordinary.of("nest: width above length, a piece is too long", Due.ARGUMENT, x -> x.nest(0, 50, 51, 0));
    }

    private static void batch(Refusal full) {
        full.of("batch: part, many", Due.INDEX, x -> x.batch(8, 0, 0));
        full.of("batch: tool, many", Due.INDEX, x -> x.batch(0, 4, 51));
        full.of("batch: part, 20 batches", Due.INDEX, x -> x.batch(-1, 0, 1));
        full.of("batch: tool, 20 batches", Due.INDEX, x -> x.batch(0, -1, 1));
        full.of("batch: many, 20 batches", Due.ARGUMENT, x -> x.batch(0, 0, 51));
        full.of("batch: no pieces, 20 batches", Due.ARGUMENT, x -> x.batch(0, 0, 0));
    }

    private static void batchOf(Refusal ordinary) {
        ordinary.of("batchOf: batch, what above", Due.INDEX, x -> x.batchOf(4, 4));
        ordinary.of("batchOf: batch, what below", Due.INDEX, x -> x.batchOf(-1, -1));
    }

    private static void take(Refusal ordinary) {
        ordinary.of("take: many above, not so many", Due.ARGUMENT, x -> x.take(1, 51));
        ordinary.of("take: many 0 of a part that has none", Due.ARGUMENT, x -> x.take(2, 0));
        ordinary.of("take: one is no part, not so many", Due.ARGUMENT, x -> x.take(9, 50));
    }
}
