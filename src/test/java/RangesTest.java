/** The range of each @param: the smallest and the largest argument, one below and one above, the far ends of int. */
public final class RangesTest {
    private static final int UP = PressbrakeLane.UP;
    private static final int SHORT = PressbrakeLane.SHORT;
    private static final int CAN = PressbrakeLane.CAN;
    private static final Due DUE = new Due("RangesTest");

    public static void main(String[] args) {
        face();
        part();
        redraw();
        hole();
        isNear();
        told();
        tool();
        trial();
        blank();
        why();
        point();
        orders();
        want();
        nest();
        batch();
        workAndBatchOf();
        kits();
        take();
        DUE.end();
    }

    private static void indices(String what, int low, int high, long atLow, long atHigh, Range.Call call) {
        Range.check(DUE, what, Due.INDEX, low, high, atLow, atHigh, call);
    }

    private static void arguments(String what, int low, int high, long atLow, long atHigh, Range.Call call) {
        Range.check(DUE, what, Due.ARGUMENT, low, high, atLow, atHigh, call);
    }

    /**
     * Eight parts, four tools and twenty batches: the part p has faces of 10 + p and 50, the width 100 + p and the
     * thickness 1; the tool t has the opening 4, but 3 has 32, and the deduction t; the batch b is of b + 1 pieces.
     */
    private static PressbrakeLane many() {
        PressbrakeLane lane = new PressbrakeLane();
        for (int t = 0; t < 4; t++) {
            lane.tool(t < 3 ? 4 : 32, 0, 200, 10, 600);
            lane.trial(t, 1, t);
        }
        for (int p = 0; p < 8; p++) {
            Lanes.draw(lane, "U", 10 + p, 50);
            lane.part(100 + p, 1);
        }
        for (int b = 0; b < 20; b++) {
            lane.batch(b % 8, 0, b + 1);
        }
        return lane;
    }

    /** One part and one tool, two faces on the pad. */
    private static PressbrakeLane one() {
        PressbrakeLane lane = Lanes.withPart(1, "U", 50, 60);
        Lanes.draw(lane, "U", 70, 80);
        return lane;
    }

    private static PressbrakeLane sixFaces() {
        return Lanes.withPart(1, "UUUUU", 10, 20, 30, 40, 50, 60);
    }

    private static void face() {
        arguments("face, length", 10, 200, 10, 200, v -> {
            PressbrakeLane lane = new PressbrakeLane();
            lane.face(v, UP);
            lane.part(100, 1);
            Lanes.easyTool(lane);
            return lane.blank(0, 0);
        });
        arguments("the first face, direction", 0, 1, 1, 1, v -> new PressbrakeLane().face(50, v));
        arguments("a later face, direction", 0, 1, 30, -30, v -> {
            PressbrakeLane lane = new PressbrakeLane();
            Lanes.draw(lane, "U", 50, 40);
            lane.face(30, v);
            lane.part(100, 1);
            return lane.point(0, 2, 0, true, 1, true);
        });
    }

    private static void part() {
        arguments("part, width", 10, 300, 10, 300, v -> {
            PressbrakeLane lane = one();
            return lane.told(lane.part(v, 1), 2);
        });
        arguments("part, thickness", 1, 4, 1, 4, v -> {
            PressbrakeLane lane = one();
            return lane.told(lane.part(100, v), 3);
        });
    }

    private static void redraw() {
        // The part 0 has the batches 0, 8 and 16, the part 7 has 7 and 15.
        indices("redraw, part of eight", 0, 7, 1 + 9 + 17, 8 + 16, v -> {
            PressbrakeLane lane = many();
            lane.face(60, UP);
            return lane.redraw(v, 50, 1);
        });
        indices("redraw, part of one", 0, 0, 1, 1, v -> {
            PressbrakeLane lane = one();
            return lane.redraw(v, 100, 1) + lane.told(v, 0);
        });
        arguments("redraw, width", 10, 300, 10, 300, v -> {
            PressbrakeLane lane = one();
            lane.redraw(0, v, 1);
            return lane.told(0, 2);
        });
        arguments("redraw, thickness", 1, 4, 1, 4, v -> {
            PressbrakeLane lane = one();
            lane.redraw(0, 100, v);
            return lane.told(0, 3);
        });
    }

    private static PressbrakeLane eightParts() {
        PressbrakeLane lane = new PressbrakeLane();
        for (int p = 0; p < 8; p++) {
            Lanes.draw(lane, "U", 10 + p, 50);
            lane.part(100 + p, 1);
        }
        return lane;
    }

    private static void hole() {
        indices("hole, part of eight", 0, 7, 1, 1, v -> {
            PressbrakeLane lane = eightParts();
            return lane.hole(v, 0, 5, 1) + lane.told(v, 4);
        });
        indices("hole, part of one", 0, 0, 0, 0, v -> one().hole(v, 0, 5, 1));
        indices("hole, face of six", 0, 5, 0, 0, v -> sixFaces().hole(0, v, 5, 1));
        indices("hole, face of one", 0, 0, 0, 0, v -> Lanes.withPart(1, "", 50).hole(0, v, 5, 1));
        arguments("hole, at, of the shortest face", 1, 9, 0, 0, v -> Lanes.withPart(1, "", 10).hole(0, 0, v, 1));
        arguments("hole, at, of the longest face", 1, 199, 0, 0, v -> Lanes.withPart(1, "", 200).hole(0, 0, v, 1));
        arguments("hole, at, of the second face", 1, 59, 0, 0, v -> one().hole(0, 1, v, 1));
        // Of 2 from the bend, a reach of 2 and 0 is not near, one of 2 and 10 is.
        arguments("hole, diameter", 1, 20, 0, 1, v -> {
            PressbrakeLane lane = one();
            lane.hole(0, 1, 2, v);
            return lane.told(0, 5);
        });
    }

    private static void isNear() {
        indices("isNear, part of eight", 0, 7, 0, 1, v -> {
            PressbrakeLane lane = eightParts();
            lane.hole(0, 0, 1, 1);
            lane.hole(7, 0, 16, 1);
            return lane.isNear(v, 0) ? 1 : 0;
        });
        indices("isNear, hole of six", 0, 5, 0, 1, v -> {
            PressbrakeLane lane = one();
            for (int i = 0; i < 6; i++) {
                lane.hole(0, 0, i < 5 ? 1 : 49, 1);
            }
            return lane.isNear(0, v) ? 1 : 0;
        });
        indices("isNear, hole of one", 0, 0, 1, 1, v -> {
            PressbrakeLane lane = one();
            lane.hole(0, 0, 49, 1);
            return lane.isNear(0, v) ? 1 : 0;
        });
    }

    private static void told() {
        indices("told, part of eight", 0, 7, 100, 107, v -> many().told(v, 2));
        indices("told, part of one", 0, 0, 100, 100, v -> one().told(v, 2));
        arguments("told, what", 0, 5, 0, 1, v -> {
            PressbrakeLane lane = one();
            lane.hole(0, 0, 49, 1);
            return lane.told(0, v);
        });
    }

    private static void tool() {
        PressbrakeLane made = new PressbrakeLane();
        DUE.is("all at their smallest", 0, () -> made.tool(4, 0, 10, 10, 20));
        DUE.is("all at their largest", 1, () -> made.tool(60, 30, 200, 200, 600));
        arguments("tool, opening", 4, 60, CAN, SHORT, v -> {
            PressbrakeLane lane = Lanes.withPart(1, "U", 30, 30);
            return lane.why(0, lane.tool(v, 0, 200, 10, 600), 0, 0);
        });
        // The wing to the right goes to u = 30, and from there up, by 20.
        arguments("tool, punch", 0, 30, CAN, PressbrakeLane.PUNCH, v -> {
            PressbrakeLane lane = Lanes.withPart(1, "UU", 100, 30, 20);
            return lane.why(0, lane.tool(4, v, 200, 10, 600), 2, 0);
        });
        // It goes to u = 30, and from there down, by 20.
        arguments("tool, die", 10, 200, PressbrakeLane.TABLE, CAN, v -> {
            PressbrakeLane lane = Lanes.withPart(1, "UD", 100, 30, 20);
            return lane.why(0, lane.tool(4, 0, v, 200, 600), 2, 0);
        });
        arguments("tool, table", 10, 200, CAN, PressbrakeLane.TABLE, v -> {
            PressbrakeLane lane = Lanes.withPart(1, "UD", 100, 30, 20);
            return lane.why(0, lane.tool(4, 0, 10, v, 600), 2, 0);
        });
        arguments("tool, gauge", 20, 600, PressbrakeLane.GAUGE, CAN, v -> {
            PressbrakeLane lane = Lanes.withPart(1, "U", 200, 200);
            return lane.why(0, lane.tool(4, 0, 200, 10, v), 0, 0);
        });
    }

    private static void trial() {
        indices("trial, tool of four", 0, 3, 0, 3, v -> many().trial(v, 1, 9));
        indices("trial, tool of one", 0, 0, 2, 2, v -> one().trial(v, 1, 9));
        arguments("trial, thickness", 1, 4, 2, 8, v -> one().trial(0, v, 9));
        arguments("trial, deduction", 0, 9, 110, 101, v -> {
            PressbrakeLane lane = one();
            lane.trial(0, 1, v);
            return lane.blank(0, 0);
        });
    }

    private static void blank() {
        indices("blank, part of eight", 0, 7, 60, 67, v -> many().blank(v, 0));
        indices("blank, tool of four", 0, 3, 60, 57, v -> many().blank(0, v));
        indices("blank, part of one", 0, 0, 108, 108, v -> one().blank(v, 0));
        indices("blank, tool of one", 0, 0, 108, 108, v -> one().blank(0, v));
    }

    private static void why() {
        indices("why, part of eight", 0, 7, SHORT, CAN, v -> many().why(v, 3, 0, 0));
        indices("why, tool of four", 0, 3, CAN, SHORT, v -> many().why(0, v, 0, 0));
        indices("why, bend of five", 0, 4, SHORT, CAN, v -> {
            PressbrakeLane lane = sixFaces();
            lane.tool(20, 0, 200, 10, 600);
            return lane.why(0, 1, 0, v);
        });
        indices("why, bend of one", 0, 0, CAN, CAN, v -> one().why(0, 0, 0, v));
        arguments("why, done, bend 4 of five", 0, 15, CAN, PressbrakeLane.PUNCH, v -> sixFaces().why(0, 0, v, 4));
        arguments("why, done, bend 0 of one", 0, 0, CAN, CAN, v -> one().why(0, 0, v, 0));
        checkDone("why", (done, bend) -> sixFaces().why(0, 0, done, bend));
    }

    interface Bend {
        long answer(int done, int bend);
    }

    /** Of five bends: each set of bends is allowed without the bend itself, and refused with it or with a sixth one. */
    private static void checkDone(String what, Bend call) {
        for (int b = 0; b < 5; b++) {
            int bend = b;
            int others = 31 & ~(1 << bend);
            DUE.is(what + ", all others are done, bend " + b, 0, () -> Math.min(0, call.answer(others, bend)));
            DUE.fails(what + ", all are done, bend " + b, Due.ARGUMENT, () -> call.answer(31, bend));
            DUE.fails(what + ", it is done, bend " + b, Due.ARGUMENT, () -> call.answer(1 << bend, bend));
            for (int k = 5; k < 32; k++) {
                int beyond = 1 << k;
                DUE.fails(what + ", bend " + k + " is done", Due.ARGUMENT, () -> call.answer(beyond, bend));
            }
            int largest = Integer.MAX_VALUE & ~(1 << bend);
            DUE.fails(what + ", nearly the largest int is done", Due.ARGUMENT, () -> call.answer(largest, bend));
        }
    }

    private static void point() {
        indices("point, part of eight", 0, 7, 10, 17, v -> many().point(v, 0, 0, false, 0, false));
        indices("point, bend of five, to the left", 0, 4, 10, 50, v -> sixFaces().point(0, 0, v, false, 0, false));
        indices("point, bend of five, to the right", 0, 4, 20, 60, v -> sixFaces().point(0, 0, v, true, 0, false));
        indices("point, five places to the right", 0, 4, 20, 200, v -> sixFaces().point(0, 0, 0, true, v, false));
        indices("point, one place to the left", 0, 0, 10, 10, v -> sixFaces().point(0, 0, 0, false, v, false));
        indices("point, one place to the right", 0, 0, 60, 60, v -> sixFaces().point(0, 0, 4, true, v, false));
        indices("point, five places to the left", 0, 4, 50, 150, v -> sixFaces().point(0, 0, 4, false, v, false));
        arguments("point, done", 0, 15, 0, 40, v -> sixFaces().point(0, v, 4, false, 1, true));
        checkDone("point", (done, bend) -> sixFaces().point(0, done, bend, true, 0, true));
    }

    private static void orders() {
        indices("flips, part of eight", 0, 7, -1, 0, v -> many().flips(v, 3));
        indices("flips, tool of four", 0, 3, 0, -1, v -> many().flips(0, v));
        indices("flipsAnew, part of eight", 0, 7, -1, 0, v -> many().flipsAnew(v, 3));
        indices("flipsAnew, tool of four", 0, 3, 0, -1, v -> many().flipsAnew(0, v));
        indices("ordered, part of eight", 0, 7, -1, 0, v -> many().ordered(v, 3, 0));
        indices("ordered, tool of four", 0, 3, 0, -1, v -> many().ordered(0, v, 0));
        // There is no largest place: behind the last one the answer is NONE.
        indices("ordered, place", 0, Integer.MAX_VALUE, 0, -1, v -> one().ordered(0, 0, v));
        indices("ordered, place without an order", 0, Integer.MAX_VALUE, -1, -1, v -> many().ordered(0, 3, v));
    }

    private static void want() {
        indices("want, part of eight", 0, 7, 1, 1, v -> many().want(v, 1));
        indices("want, part of one", 0, 0, 1, 1, v -> one().want(v, 1));
        arguments("want, many", 1, 40, 1, 40, v -> {
            PressbrakeLane lane = one();
            lane.want(0, v);
            return lane.clear();
        });
    }

    private static void nest() {
        indices("nest, tool of four", 0, 3, 60, 57, v -> {
            PressbrakeLane lane = many();
            lane.want(0, 1);
            return (lane.nest(v, 500, 500, 2) - 200) / 2;
        });
        arguments("nest, length", 50, 3000, -1, 1, v -> wanted().nest(0, v, 50, 0));
        arguments("nest, length, an empty lot", 50, 3000, 0, 0, v -> one().nest(0, v, 50, 3));
        arguments("nest, width of the longest sheet", 50, 1500, 1, 1, v -> wanted().nest(0, 3000, v, 0));
        arguments("nest, width of a sheet of 1499", 50, 1499, 1, 1, v -> wanted().nest(0, 1499, v, 0));
        arguments("nest, width of the shortest sheet", 50, 50, 0, 0, v -> one().nest(0, 50, v, 0));
        arguments("nest, what", 0, 3, 1, 3000 * 1500 - 5800, v -> wanted().nest(0, 3000, 1500, v));
        arguments("nest, what, an empty lot", 0, 3, 0, 0, v -> one().nest(0, 50, 50, v));
    }

    /** A piece of 116 x 50 is wanted. */
    private static PressbrakeLane wanted() {
        PressbrakeLane lane = new PressbrakeLane();
        Lanes.draw(lane, "", 116);
        lane.part(50, 1);
        Lanes.easyTool(lane);
        lane.want(0, 1);
        return lane;
    }

    private static void batch() {
        indices("batch, part of eight", 0, 7, 60, 67, v -> {
            PressbrakeLane lane = eightParts();
            Lanes.easyTool(lane);
            lane.trial(0, 1, 0);
            return lane.batchOf(lane.batch(v, 0, 1), 3);
        });
        indices("batch, tool of four", 0, 3, 60, 57, v -> {
            PressbrakeLane lane = eightParts();
            for (int t = 0; t < 4; t++) {
                Lanes.easyTool(lane);
                lane.trial(t, 1, t);
            }
            return lane.batchOf(lane.batch(0, v, 1), 3);
        });
        arguments("batch, many", 1, 50, 1, 50, v -> {
            PressbrakeLane lane = one();
            return lane.batchOf(lane.batch(0, 0, v), 1);
        });
    }

    private static void workAndBatchOf() {
        indices("work, batch of twenty", 0, 19, 1, 1, v -> {
            PressbrakeLane lane = many();
            return lane.work(v) * lane.batchOf(v, 0);
        });
        indices("work, batch of one", 0, 0, 1, 1, v -> {
            PressbrakeLane lane = one();
            lane.batch(0, 0, 1);
            return lane.work(v);
        });
        indices("batchOf, batch of twenty", 0, 19, 1, 20, v -> many().batchOf(v, 1));
        indices("batchOf, batch of one", 0, 0, 7, 7, v -> {
            PressbrakeLane lane = one();
            lane.batch(0, 0, 7);
            return lane.batchOf(v, 1);
        });
        arguments("batchOf, what", 0, 3, 0, 60, v -> many().batchOf(0, v));
    }

    private static void kits() {
        arguments("kits, parts of eight", 1, 255, 0, 0, v -> eightParts().kits(v));
        arguments("kits, parts of two", 1, 3, 5, 4, v -> twoCoated().kits(v));
        arguments("kits, parts of one", 1, 1, 0, 0, v -> one().kits(v));
        for (int k = 2; k < 32; k++) {
            int beyond = 1 << k;
            DUE.fails("kits of the part " + k, Due.ARGUMENT, () -> twoCoated().kits(beyond));
            DUE.fails("kits with the part " + k, Due.ARGUMENT, () -> twoCoated().kits(1 | beyond));
            DUE.fails("take of the part " + k, Due.ARGUMENT, () -> twoCoated().take(beyond, 1));
            DUE.fails("take with the part " + k, Due.ARGUMENT, () -> twoCoated().take(1 | beyond, 1));
        }
    }

    /** Five pieces of the part 0 are COATED, and four of the part 1. */
    private static PressbrakeLane twoCoated() {
        PressbrakeLane lane = one();
        lane.part(100, 1);
        Lanes.batch(lane, 0, 0, 5, 2);
        Lanes.batch(lane, 1, 0, 4, 2);
        return lane;
    }

    private static void take() {
        arguments("take, parts of two", 1, 3, 1, 2, v -> {
            PressbrakeLane lane = twoCoated();
            lane.take(1, 1);
            return lane.take(v, 4);
        });
        arguments("take, parts of eight", 1, 255, 1, 8, v -> {
            PressbrakeLane lane = eightParts();
            Lanes.easyTool(lane);
            for (int p = 0; p < 8; p++) {
                Lanes.batch(lane, p, 0, 1, 2);
            }
            return lane.take(v, 1);
        });
        arguments("take, many", 1, 50, 49, 0, v -> {
            PressbrakeLane lane = one();
            Lanes.batch(lane, 0, 0, 50, 2);
            lane.take(1, v);
            return lane.batchOf(0, 1);
        });
    }
}
