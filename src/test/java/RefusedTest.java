/** "A call that throws an exception changes nothing": for each call and each reason to refuse it. */
public final class RefusedTest {
    private static final int UP = PressbrakeLane.UP;
    private static final int DOWN = PressbrakeLane.DOWN;
    private static final int MIN = Integer.MIN_VALUE;
    private static final int MAX = Integer.MAX_VALUE;
    private static final Due DUE = new Due("RefusedTest");

    public static void main(String[] args) {
        readingSeesChanges();
        ofNewObject();
        ofBareObject();
        parts(new Refusal(DUE, Lanes::ordinary));
        bends(new Refusal(DUE, Lanes::ordinary));
        nests(new Refusal(DUE, Lanes::ordinary));
        batches(new Refusal(DUE, Lanes::ordinary));
        ofFullObject();
        DUE.end();
    }

    private static void readingSeesChanges() {
        Refusal ordinary = new Refusal(DUE, Lanes::ordinary);
        ordinary.isSeen("face", x -> x.face(50, DOWN));
        ordinary.isSeen("wipe", x -> x.wipe());
        ordinary.isSeen("part", x -> x.part(100, 2));
        ordinary.isSeen("redraw", x -> x.redraw(2, 60, 4));
        ordinary.isSeen("hole", x -> x.hole(1, 1, 15, 2));
        ordinary.isSeen("tool", x -> x.tool(4, 0, 10, 10, 20));
        ordinary.isSeen("trial", x -> x.trial(0, 3, 5));
        ordinary.isSeen("want", x -> x.want(1, 1));
        ordinary.isSeen("clear", x -> x.clear());
        ordinary.isSeen("batch", x -> x.batch(0, 0, 1));
        ordinary.isSeen("work on CUT", x -> x.work(0));
        ordinary.isSeen("work on BENT", x -> x.work(1));
        ordinary.isSeen("take", x -> x.take(4, 1));
    }

    private static void ofNewObject() {
        Refusal made = new Refusal(DUE, PressbrakeLane::new);
        made.of("part of an empty pad", Due.STATE, x -> x.part(100, 2));
        made.of("redraw", Due.INDEX, x -> x.redraw(0, 100, 2));
        made.of("hole", Due.INDEX, x -> x.hole(0, 0, 1, 1));
        made.of("trial", Due.INDEX, x -> x.trial(0, 1, 1));
        made.of("want", Due.INDEX, x -> x.want(0, 1));
        made.of("nest", Due.INDEX, x -> x.nest(0, 100, 100, 0));
        made.of("batch", Due.INDEX, x -> x.batch(0, 0, 1));
        made.of("work", Due.INDEX, x -> x.work(0));
        made.of("take", Due.ARGUMENT, x -> x.take(1, 1));
    }

    private static void ofBareObject() {
        Refusal bare = new Refusal(DUE, Lanes::bare);
        bare.of("part of an empty pad", Due.STATE, x -> x.part(100, 2));
        bare.of("redraw by an empty pad", Due.STATE, x -> x.redraw(0, 100, 2));
        bare.of("take without batches", Due.STATE, x -> x.take(1, 1));
        bare.of("work without batches", Due.INDEX, x -> x.work(0));
    }

    private static void parts(Refusal ordinary) {
        for (int l : new int[] {9, 201, 0, -1, MIN, MAX}) {
            ordinary.of("face of " + l, Due.ARGUMENT, x -> x.face(l, UP));
        }
        for (int d : new int[] {-1, 2, MIN, MAX}) {
            ordinary.of("direction " + d, Due.ARGUMENT, x -> x.face(50, d));
        }
        for (int w : new int[] {9, 301, MIN, MAX}) {
            ordinary.of("part of width " + w, Due.ARGUMENT, x -> x.part(w, 2));
            ordinary.of("redraw to width " + w, Due.ARGUMENT, x -> x.redraw(0, w, 2));
        }
        for (int t : new int[] {0, 5, MIN, MAX}) {
            ordinary.of("part of thickness " + t, Due.ARGUMENT, x -> x.part(100, t));
            ordinary.of("redraw to thickness " + t, Due.ARGUMENT, x -> x.redraw(0, 100, t));
        }
        for (int p : new int[] {-1, 3, MIN, MAX}) {
            ordinary.of("redraw of part " + p, Due.INDEX, x -> x.redraw(p, 100, 2));
            ordinary.of("hole in part " + p, Due.INDEX, x -> x.hole(p, 0, 5, 5));
            ordinary.of("hole " + p, Due.INDEX, x -> x.isNear(1, p) ? 1 : 0);
            ordinary.of("isNear of part " + p, Due.INDEX, x -> x.isNear(p, 0) ? 1 : 0);
            ordinary.of("told of part " + p, Due.INDEX, x -> x.told(p, 0));
            ordinary.of("hole on face " + p, Due.INDEX, x -> x.hole(1, p, 5, 5));
        }
        for (int a : new int[] {0, 60, MIN, MAX}) {
            ordinary.of("hole at " + a, Due.ARGUMENT, x -> x.hole(1, 0, a, 5));
        }
        for (int d : new int[] {0, 21, MIN, MAX}) {
            ordinary.of("hole of diameter " + d, Due.ARGUMENT, x -> x.hole(1, 0, 5, d));
        }
        ordinary.of("hole with a CUT and a BENT batch", Due.STATE, x -> x.hole(0, 0, 5, 5));
        ordinary.of("hole with a COATED batch", Due.STATE, x -> x.hole(2, 0, 5, 5));
        ordinary.of("told 6", Due.ARGUMENT, x -> x.told(0, 6));
        ordinary.of("told -1", Due.ARGUMENT, x -> x.told(0, -1));
    }

    private static void bends(Refusal ordinary) {
        ordinary.of("tool, opening", Due.ARGUMENT, x -> x.tool(3, 0, 10, 10, 20));
        ordinary.of("tool, punch", Due.ARGUMENT, x -> x.tool(4, 31, 10, 10, 20));
        ordinary.of("tool, die", Due.ARGUMENT, x -> x.tool(4, 0, 9, 10, 20));
        ordinary.of("tool, table", Due.ARGUMENT, x -> x.tool(4, 0, 10, 201, 20));
        ordinary.of("tool, gauge", Due.ARGUMENT, x -> x.tool(4, 0, 10, 10, 19));
        for (int t : new int[] {-1, 2, MIN, MAX}) {
            ordinary.of("trial of tool " + t, Due.INDEX, x -> x.trial(t, 1, 1));
            ordinary.of("blank by tool " + t, Due.INDEX, x -> x.blank(0, t));
            ordinary.of("why by tool " + t, Due.INDEX, x -> x.why(0, t, 0, 0));
            ordinary.of("flips by tool " + t, Due.INDEX, x -> x.flips(0, t));
            ordinary.of("flipsAnew by tool " + t, Due.INDEX, x -> x.flipsAnew(0, t));
            ordinary.of("ordered by tool " + t, Due.INDEX, x -> x.ordered(0, t, 0));
            ordinary.of("why of bend " + t, Due.INDEX, x -> x.why(0, 0, 0, t));
            ordinary.of("point of bend " + t, Due.INDEX, x -> x.point(0, 0, t, true, 0, true));
            ordinary.of("point of place " + t, Due.INDEX, x -> x.point(0, 0, 0, true, t, true));
        }
        for (int t : new int[] {0, 5, MIN, MAX}) {
            ordinary.of("trial of thickness " + t, Due.ARGUMENT, x -> x.trial(0, t, 1));
        }
        for (int d : new int[] {-1, 10, MIN, MAX}) {
            ordinary.of("trial of deduction " + d, Due.ARGUMENT, x -> x.trial(0, 2, d));
        }
        for (int d : new int[] {1, 4, -2, MIN, MAX}) {
            ordinary.of("why with done " + d, Due.ARGUMENT, x -> x.why(0, 0, d, 0));
            ordinary.of("point with done " + d, Due.ARGUMENT, x -> x.point(0, d, 0, true, 0, true));
        }
        ordinary.of("ordered at -1", Due.INDEX, x -> x.ordered(0, 0, -1));
    }

    private static void nests(Refusal ordinary) {
        for (int p : new int[] {-1, 3, MIN, MAX}) {
            ordinary.of("want of part " + p, Due.INDEX, x -> x.want(p, 1));
        }
        for (int m : new int[] {0, 41, -1, MIN, MAX}) {
            ordinary.of("want of " + m, Due.ARGUMENT, x -> x.want(0, m));
        }
        ordinary.of("want of one too many", Due.STATE, x -> x.want(1, 35));
        ordinary.of("nest by no tool", Due.INDEX, x -> x.nest(2, 100, 100, 0));
        ordinary.of("nest, length", Due.ARGUMENT, x -> x.nest(0, 3001, 100, 0));
        ordinary.of("nest, width", Due.ARGUMENT, x -> x.nest(0, 100, 101, 0));
        ordinary.of("nest, what", Due.ARGUMENT, x -> x.nest(0, 100, 100, 4));
    }

    private static void batches(Refusal ordinary) {
        for (int n : new int[] {-1, 3, MIN, MAX}) {
            ordinary.of("batch of part " + n, Due.INDEX, x -> x.batch(n, 0, 1));
            ordinary.of("batch by tool " + n, Due.INDEX, x -> x.batch(0, n, 1));
        }
        for (int m : new int[] {0, 51, -1, MIN, MAX}) {
            ordinary.of("batch of " + m, Due.ARGUMENT, x -> x.batch(0, 0, m));
            ordinary.of("take of " + m, Due.ARGUMENT, x -> x.take(4, m));
        }
        for (int b : new int[] {-1, 4, MIN, MAX}) {
            ordinary.of("work on batch " + b, Due.INDEX, x -> x.work(b));
            ordinary.of("batchOf " + b, Due.INDEX, x -> x.batchOf(b, 0));
            ordinary.of("what " + b, Due.ARGUMENT, x -> x.batchOf(0, b));
        }
        ordinary.of("work on COATED", Due.STATE, x -> x.work(2));
        ordinary.of("work on SCRAP", Due.STATE, x -> x.work(3));
        for (int p : new int[] {0, 8, 12, -1, MIN, MAX}) {
            ordinary.of("kits of " + p, Due.ARGUMENT, x -> x.kits(p));
            ordinary.of("take of parts " + p, Due.ARGUMENT, x -> x.take(p, 1));
        }
        ordinary.of("take of one too many", Due.STATE, x -> x.take(4, 8));
        ordinary.of("take with a part that has none", Due.STATE, x -> x.take(6, 1));
        ordinary.of("take with a part that has none, ahead of one that has", Due.STATE, x -> x.take(5, 1));
        Refusal unbendable = new Refusal(DUE, RefusedTest::withoutOrder);
        unbendable.of("work on CUT without an order", Due.STATE, x -> x.work(4));
    }

    /** The batch 4 is of the part 0 by the tool 2, by which none of its bends is possible first. */
    private static PressbrakeLane withoutOrder() {
        PressbrakeLane lane = Lanes.ordinary();
        lane.tool(60, 0, 10, 10, 20);
        lane.batch(0, 2, 9);
        return lane;
    }

    private static void ofFullObject() {
        Refusal full = new Refusal(DUE, Lanes::full);
        full.of("the seventh face", Due.STATE, x -> x.face(10, DOWN));
        full.of("the ninth part", Due.STATE, x -> x.part(10, 1));
        full.of("the seventh hole", Due.STATE, x -> x.hole(1, 0, 1, 1));
        full.of("the fifth tool", Due.STATE, x -> x.tool(60, 30, 200, 200, 600));
        full.of("the 41st piece", Due.STATE, x -> x.want(0, 1));
        full.of("40 pieces more", Due.STATE, x -> x.want(7, 40));
        full.of("the 21st batch", Due.STATE, x -> x.batch(7, 3, 50));
        full.of("part 8", Due.INDEX, x -> x.redraw(8, 100, 2));
        full.of("tool 4", Due.INDEX, x -> x.trial(4, 1, 1));
        full.of("batch 20", Due.INDEX, x -> x.work(20));
        full.of("part 8 in a kit", Due.ARGUMENT, x -> x.take(256, 1));
        full.of("more than there are", Due.STATE, x -> x.take(4, 50));
    }
}
