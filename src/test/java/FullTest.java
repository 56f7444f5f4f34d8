/** Empty and full: a new object, and what pads, parts, holes, tools, lots and batches may be at most. */
public final class FullTest {
    private static final int UP = PressbrakeLane.UP;
    private static final int MAX = Integer.MAX_VALUE;
    private static final Due DUE = new Due("FullTest");

    public static void main(String[] args) {
        newObject();
        emptyPad();
        padOfSix();
        partTakesThePad();
        redrawTakesThePad();
        eightParts();
        redrawOfEightParts();
        sixHoles();
        sixHolesOfEachPart();
        redrawnHoles();
        fourTools();
        emptyLot();
        lotOfForty();
        lotOfFortyAtOnce();
        lotOfFortyByOnes();
        lotOfSeveralParts();
        twentyBatches();
        twentyBatchesThatAreDone();
        noBatchWithoutPieces();
        emptiedBatches();
        thousandKits();
        noKits();
        manyRevisions();
        DUE.end();
    }

    private static void newObject() {
        PressbrakeLane lane = new PressbrakeLane();
        DUE.is("an empty pad", 0, () -> lane.wipe());
        DUE.is("an empty lot", 0, () -> lane.clear());
        for (int n : new int[] {0, 1, -1, 7, MAX, Integer.MIN_VALUE}) {
            DUE.fails("no part to tell of, " + n, Due.INDEX, () -> lane.told(n, 0));
            DUE.fails("no part to redraw, " + n, Due.INDEX, () -> lane.redraw(n, 100, 2));
            DUE.fails("no part for a hole, " + n, Due.INDEX, () -> lane.hole(n, 0, 5, 5));
            DUE.fails("no part with a hole, " + n, Due.INDEX, () -> lane.isNear(n, 0) ? 1 : 0);
            DUE.fails("no part to unfold, " + n, Due.INDEX, () -> lane.blank(n, 0));
            DUE.fails("no part to bend, " + n, Due.INDEX, () -> lane.why(n, 0, 0, 0));
            DUE.fails("no part with points, " + n, Due.INDEX, () -> lane.point(n, 0, 0, true, 0, true));
            DUE.fails("no part to turn, " + n, Due.INDEX, () -> lane.flips(n, 0));
            DUE.fails("no part to turn anew, " + n, Due.INDEX, () -> lane.flipsAnew(n, 0));
            DUE.fails("no part with an order, " + n, Due.INDEX, () -> lane.ordered(n, 0, 0));
            DUE.fails("no part to want, " + n, Due.INDEX, () -> lane.want(n, 1));
            DUE.fails("no part to cut, " + n, Due.INDEX, () -> lane.batch(n, 0, 1));
            DUE.fails("no tool to try, " + n, Due.INDEX, () -> lane.trial(n, 1, 1));
            DUE.fails("no tool to nest by, " + n, Due.INDEX, () -> lane.nest(n, 100, 100, 0));
            DUE.fails("no batch to work, " + n, Due.INDEX, () -> lane.work(n));
            DUE.fails("no batch to tell of, " + n, Due.INDEX, () -> lane.batchOf(n, 0));
            DUE.fails("no part for kits, " + n, Due.ARGUMENT, () -> lane.kits(n));
            DUE.fails("no part to take, " + n, Due.ARGUMENT, () -> lane.take(n, 1));
        }
        DUE.fails("no part to make", Due.STATE, () -> lane.part(100, 2));
        DUE.is("the first face", 1, () -> lane.face(50, UP));
        DUE.is("the first part", 0, () -> lane.part(100, 2));
        DUE.is("the first tool", 0, () -> lane.tool(4, 0, 10, 10, 20));
        DUE.is("the first batch", 0, () -> lane.batch(0, 0, 1));
        DUE.is("the first piece", 1, () -> lane.want(0, 1));
        DUE.is("revision 0", 0, () -> lane.told(0, 0));
        DUE.is("no holes", 0, () -> lane.told(0, 4));
    }

    private static void emptyPad() {
        PressbrakeLane lane = Lanes.bare();
        DUE.is("wipe of an empty pad", 0, () -> lane.wipe());
        DUE.fails("part of an empty pad", Due.STATE, () -> lane.part(10, 1));
        DUE.fails("redraw by an empty pad", Due.STATE, () -> lane.redraw(0, 10, 1));
        lane.face(10, UP);
        lane.wipe();
        DUE.fails("part of a pad that was wiped", Due.STATE, () -> lane.part(10, 1));
        DUE.fails("redraw by a pad that was wiped", Due.STATE, () -> lane.redraw(0, 10, 1));
        lane.face(10, UP);
        DUE.is("one face is enough", 3, () -> lane.part(10, 1));
    }

    private static void padOfSix() {
        PressbrakeLane lane = new PressbrakeLane();
        for (int round = 0; round < 3; round++) {
            for (int i = 1; i <= 6; i++) {
                int due = i;
                DUE.is("face " + i, due, () -> lane.face(50, due % 2));
            }
            DUE.fails("the seventh face", Due.STATE, () -> lane.face(50, UP));
            DUE.fails("and once more", Due.STATE, () -> lane.face(50, UP));
            DUE.is("a full pad is wiped", 6, () -> lane.wipe());
        }
    }

    private static void partTakesThePad() {
        PressbrakeLane lane = new PressbrakeLane();
        Lanes.draw(lane, "UUUUU", 10, 20, 30, 40, 50, 60);
        DUE.is("a part of a full pad", 0, () -> lane.part(100, 1));
        DUE.is("it has six faces", 6, () -> lane.told(0, 1));
        DUE.is("the pad is empty", 0, () -> lane.wipe());
        DUE.fails("the same can't be made twice", Due.STATE, () -> lane.part(100, 1));
        DUE.is("a new first face", 1, () -> lane.face(70, UP));
        DUE.is("it is no face of the part", 6, () -> lane.told(0, 1));
        DUE.is("and does not change its faces", 10, () -> lane.point(0, 0, 0, false, 0, false));
    }

    private static void redrawTakesThePad() {
        PressbrakeLane lane = Lanes.bare();
        Lanes.draw(lane, "UUUUU", 10, 20, 30, 40, 50, 60);
        DUE.is("redraw by a full pad", 0, () -> lane.redraw(2, 100, 1));
        DUE.is("it has six faces", 6, () -> lane.told(2, 1));
        DUE.is("the pad is empty", 0, () -> lane.wipe());
        DUE.fails("the same can't be drawn twice", Due.STATE, () -> lane.redraw(2, 100, 1));
        DUE.is("one revision", 1, () -> lane.told(2, 0));
        DUE.is("a new first face", 1, () -> lane.face(70, UP));
        DUE.is("it does not change the part", 10, () -> lane.point(2, 0, 0, false, 0, false));
        DUE.is("redraw to one face", 0, () -> lane.redraw(2, 100, 1));
        DUE.is("the other five are gone", 1, () -> lane.told(2, 1));
        DUE.is("from the blank as well", 70, () -> lane.blank(2, 0));
    }

    private static void eightParts() {
        PressbrakeLane lane = new PressbrakeLane();
        for (int p = 0; p < 8; p++) {
            int part = p;
            lane.face(50, UP);
            DUE.fails("no part " + p + " yet", Due.INDEX, () -> lane.told(part, 0));
            DUE.is("part " + p, part, () -> lane.part(100 + part, 1));
        }
        lane.face(50, UP);
        lane.face(60, UP);
        DUE.fails("the ninth part", Due.STATE, () -> lane.part(100, 1));
        DUE.fails("and once more", Due.STATE, () -> lane.part(100, 1));
        DUE.fails("no part 8", Due.INDEX, () -> lane.told(8, 0));
        DUE.is("part 0 is as it was", 100, () -> lane.told(0, 2));
        DUE.is("part 7 is as it was", 107, () -> lane.told(7, 2));
        DUE.is("the pad has its two faces", 2, () -> lane.wipe());
    }

    private static void redrawOfEightParts() {
        PressbrakeLane lane = Lanes.full();
        DUE.is("eight parts are no hindrance", 0, () -> lane.redraw(7, 200, 2));
        DUE.is("six faces now", 6, () -> lane.told(7, 1));
        lane.face(50, UP);
        DUE.fails("there are eight still", Due.STATE, () -> lane.part(100, 1));
    }

    private static void sixHoles() {
        PressbrakeLane lane = Lanes.withPart(1, "U", 50, 60);
        for (int i = 0; i < 6; i++) {
            int hole = i;
            DUE.is("so many holes yet", hole, () -> lane.told(0, 4));
            DUE.fails("no hole " + i + " yet", Due.INDEX, () -> lane.isNear(0, hole) ? 1 : 0);
            DUE.is("hole " + i, hole, () -> lane.hole(0, hole % 2, 5, 5));
        }
        DUE.fails("the seventh hole", Due.STATE, () -> lane.hole(0, 0, 5, 5));
        DUE.fails("on the other face", Due.STATE, () -> lane.hole(0, 1, 5, 5));
        DUE.is("six holes", 6, () -> lane.told(0, 4));
        DUE.fails("no hole 6", Due.INDEX, () -> lane.isNear(0, 6) ? 1 : 0);
    }

    private static void sixHolesOfEachPart() {
        PressbrakeLane lane = new PressbrakeLane();
        for (int p = 0; p < 8; p++) {
            lane.face(50, UP);
            lane.part(100, 1);
        }
        for (int p = 0; p < 8; p++) {
            int part = p;
            for (int i = 0; i < 6; i++) {
                int hole = i;
                DUE.is("hole " + i + " of part " + p, hole, () -> lane.hole(part, 0, 5, 5));
            }
            DUE.fails("the seventh of part " + p, Due.STATE, () -> lane.hole(part, 0, 5, 5));
        }
    }

    private static void redrawnHoles() {
        PressbrakeLane lane = Lanes.full();
        DUE.is("six holes", 6, () -> lane.told(1, 4));
        lane.redraw(1, 60, 2);
        DUE.is("no holes", 0, () -> lane.told(1, 4));
        DUE.is("none that are near", 0, () -> lane.told(1, 5));
        DUE.fails("not even the first one", Due.INDEX, () -> lane.isNear(1, 0) ? 1 : 0);
        for (int i = 0; i < 6; i++) {
            int hole = i;
            DUE.is("hole " + i + " again", hole, () -> lane.hole(1, 5, 5, 5));
        }
        DUE.fails("the seventh again", Due.STATE, () -> lane.hole(1, 5, 5, 5));
    }

    private static void fourTools() {
        PressbrakeLane lane = new PressbrakeLane();
        for (int i = 0; i < 4; i++) {
            int tool = i;
            DUE.fails("no tool " + i + " yet", Due.INDEX, () -> lane.trial(tool, 1, 1));
            DUE.is("tool " + i, tool, () -> lane.tool(4 + tool, 0, 10, 10, 20));
        }
        DUE.fails("the fifth tool", Due.STATE, () -> lane.tool(4, 0, 10, 10, 20));
        DUE.fails("and once more", Due.STATE, () -> lane.tool(4, 0, 10, 10, 20));
        DUE.fails("no tool 4", Due.INDEX, () -> lane.trial(4, 1, 1));
        DUE.is("the last one is as it was", 8, () -> lane.trial(3, 4, 9));
    }

    private static void emptyLot() {
        PressbrakeLane lane = Lanes.bare();
        DUE.is("clear of an empty lot", 0, () -> lane.clear());
        for (int w = 0; w < 4; w++) {
            int what = w;
            DUE.is("nest of an empty lot, " + w, 0, () -> lane.nest(0, 3000, 1500, what));
        }
        lane.want(0, 40);
        lane.clear();
        for (int w = 0; w < 4; w++) {
            int what = w;
            DUE.is("nest of a lot that was cleared, " + w, 0, () -> lane.nest(0, 50, 50, what));
        }
    }

    private static void lotOfForty() {
        PressbrakeLane lane = Lanes.bare();
        DUE.is("39", 39, () -> lane.want(0, 39));
        DUE.fails("41", Due.STATE, () -> lane.want(0, 2));
        DUE.fails("79", Due.STATE, () -> lane.want(0, 40));
        DUE.is("40", 40, () -> lane.want(0, 1));
        DUE.fails("41", Due.STATE, () -> lane.want(0, 1));
        DUE.is("40 stay", 40, () -> lane.clear());
        DUE.is("it has room again", 40, () -> lane.want(1, 40));
    }

    private static void lotOfFortyAtOnce() {
        PressbrakeLane lane = Lanes.bare();
        DUE.fails("41 at once are out of the range", Due.ARGUMENT, () -> lane.want(0, 41));
        DUE.is("40 at once", 40, () -> lane.want(0, 40));
        DUE.fails("another 40", Due.STATE, () -> lane.want(0, 40));
    }

    private static void lotOfFortyByOnes() {
        PressbrakeLane lane = Lanes.bare();
        for (int i = 1; i <= 40; i++) {
            int due = i;
            DUE.is("piece " + i, due, () -> lane.want(due % 3, 1));
        }
        DUE.fails("the 41st", Due.STATE, () -> lane.want(2, 1));
        DUE.is("40 sides and cuts", 40, () -> lane.clear());
    }

    /** The lot has at most 40 of all parts together, not of each. */
    private static void lotOfSeveralParts() {
        PressbrakeLane lane = Lanes.bare();
        lane.want(0, 20);
        lane.want(1, 20);
        DUE.fails("one of a third part", Due.STATE, () -> lane.want(2, 1));
        lane.face(50, UP);
        lane.redraw(0, 100, 2);
        DUE.fails("one of a part that was redrawn", Due.STATE, () -> lane.want(0, 1));
        DUE.is("40", 40, () -> lane.clear());
    }

    private static void twentyBatches() {
        PressbrakeLane lane = Lanes.bare();
        for (int b = 0; b < 20; b++) {
            int batch = b;
            DUE.fails("no batch " + b + " yet", Due.INDEX, () -> lane.batchOf(batch, 0));
            DUE.is("batch " + b, batch, () -> lane.batch(batch % 3, batch % 2, batch + 1));
        }
        DUE.fails("the 21st", Due.STATE, () -> lane.batch(0, 0, 1));
        DUE.fails("of another part, by another tool", Due.STATE, () -> lane.batch(2, 1, 50));
        DUE.fails("no batch 20", Due.INDEX, () -> lane.batchOf(20, 0));
        DUE.fails("no batch 20 to work", Due.INDEX, () -> lane.work(20));
        DUE.is("batch 0 is as it was", 1, () -> lane.batchOf(0, 1));
        DUE.is("batch 19 is as it was", 20, () -> lane.batchOf(19, 1));
    }

    /** Batches that are SCRAP or have no pieces any more keep their numbers. */
    private static void twentyBatchesThatAreDone() {
        PressbrakeLane lane = Lanes.bare();
        for (int b = 0; b < 10; b++) {
            lane.batch(0, 1, 2);
            Lanes.batch(lane, 2, 1, 2, 2);
        }
        lane.take(4, 20);
        lane.face(50, UP);
        DUE.is("ten are SCRAP", 20, () -> lane.redraw(0, 100, 2));
        DUE.is("ten have no pieces", 0, () -> lane.kits(4));
        DUE.fails("the 21st", Due.STATE, () -> lane.batch(0, 0, 1));
    }

    private static void noBatchWithoutPieces() {
        PressbrakeLane lane = Lanes.bare();
        DUE.fails("a batch of none", Due.ARGUMENT, () -> lane.batch(2, 0, 0));
        DUE.is("a batch of one", 0, () -> Lanes.batch(lane, 2, 0, 1, 2));
        DUE.is("its only piece is taken", 1, () -> lane.take(4, 1));
        DUE.is("it has none any more", 0, () -> lane.batchOf(0, 1));
        DUE.is("but is COATED", PressbrakeLane.COATED, () -> lane.batchOf(0, 0));
        DUE.fails("and no CUT one", Due.STATE, () -> lane.work(0));
    }

    private static void emptiedBatches() {
        PressbrakeLane lane = Lanes.bare();
        for (int i = 0; i < 4; i++) {
            Lanes.batch(lane, 2, 0, 5, 2);
        }
        DUE.is("just less than a batch", 0, () -> lane.take(4, 4));
        DUE.is("the last piece of it", 1, () -> lane.take(4, 1));
        DUE.is("just a batch", 1, () -> lane.take(4, 5));
        DUE.is("more than a batch", 1, () -> lane.take(4, 6));
        DUE.fails("one more than is left", Due.STATE, () -> lane.take(4, 5));
        DUE.is("just what is left", 1, () -> lane.take(4, 4));
        DUE.is("nothing is left", 0, () -> lane.kits(4));
        DUE.fails("one of nothing", Due.STATE, () -> lane.take(4, 1));
    }

    private static void thousandKits() {
        PressbrakeLane lane = Lanes.bare();
        for (int b = 0; b < 20; b++) {
            Lanes.batch(lane, 2, 0, 50, 2);
        }
        for (int i = 0; i < 20; i++) {
            int left = 1000 - 50 * i;
            DUE.is("kits that are left", left, () -> lane.kits(4));
            DUE.is("50 at once", 1, () -> lane.take(4, 50));
        }
        DUE.fails("the 1001st", Due.STATE, () -> lane.take(4, 1));
    }

    private static void noKits() {
        PressbrakeLane lane = Lanes.bare();
        DUE.is("no batches", 0, () -> lane.kits(7));
        lane.batch(2, 0, 50);
        DUE.is("a CUT one", 0, () -> lane.kits(4));
        lane.work(0);
        DUE.is("a BENT one", 0, () -> lane.kits(4));
        lane.work(0);
        DUE.is("a COATED one", 50, () -> lane.kits(4));
        DUE.is("but of one part alone", 0, () -> lane.kits(7));
        lane.face(50, UP);
        lane.redraw(2, 60, 4);
        DUE.is("a SCRAP one", 0, () -> lane.kits(4));
    }

    /** As many as 512 calls allow, so that a revision that is kept in a byte would show. */
    private static void manyRevisions() {
        PressbrakeLane lane = new PressbrakeLane();
        lane.face(50, UP);
        lane.part(100, 1);
        for (int i = 0; i < 254; i++) {
            lane.face(60, UP);
            lane.redraw(0, 100, 1);
        }
        DUE.is("revision", 254, () -> lane.told(0, 0));
    }
}
