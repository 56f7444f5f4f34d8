/** Promises 20 to 24, and what promise 5 does to batches. */
public final class BatchesTest {
    private static final int UP = PressbrakeLane.UP;
    private static final int DOWN = PressbrakeLane.DOWN;
    private static final int CUT = PressbrakeLane.CUT;
    private static final int BENT = PressbrakeLane.BENT;
    private static final int COATED = PressbrakeLane.COATED;
    private static final int SCRAP = PressbrakeLane.SCRAP;
    private static final Due DUE = new Due("BatchesTest");

    public static void main(String[] args) {
        batch();
        work();
        workWithoutOrder();
        batchOf();
        cutGoesOn();
        cutIsScrap();
        bentGoesOn();
        bentIsScrap();
        coatedWithoutPieces();
        scrapOfSeveral();
        elderHoles();
        kits();
        kitsFail();
        take();
        takeOfSeveralParts();
        takeFails();
        DUE.end();
    }

    /** One part of two faces, 50 and 60, bent UP, width 100, thickness 2; a tool that bends nearly all. */
    private static PressbrakeLane withPart() {
        PressbrakeLane lane = new PressbrakeLane();
        lane.tool(4, 0, 200, 10, 600);
        draw(lane, 50, UP, 60);
        lane.part(100, 2);
        return lane;
    }

    private static void draw(PressbrakeLane lane, int first, int direction, int second) {
        lane.face(first, UP);
        lane.face(second, direction);
    }

    private static void coated(PressbrakeLane lane, int part, int many) {
        int batch = lane.batch(part, 0, many);
        lane.work(batch);
        lane.work(batch);
    }

    private static void batch() {
        PressbrakeLane lane = withPart();
        DUE.fails("no such part", Due.INDEX, () -> lane.batch(1, 0, 0));
        DUE.fails("part -1", Due.INDEX, () -> lane.batch(-1, 0, 1));
        DUE.fails("no such tool", Due.INDEX, () -> lane.batch(0, 1, 0));
        DUE.fails("tool -1", Due.INDEX, () -> lane.batch(0, -1, 1));
        DUE.fails("no pieces", Due.ARGUMENT, () -> lane.batch(0, 0, 0));
        DUE.fails("51 pieces", Due.ARGUMENT, () -> lane.batch(0, 0, 51));
        DUE.is("one piece", 0, () -> lane.batch(0, 0, 1));
        DUE.is("50 pieces", 1, () -> lane.batch(0, 0, 50));
        for (int i = 2; i < 20; i++) {
            int due = i;
            DUE.is("batch " + i, due, () -> lane.batch(0, 0, 7));
        }
        DUE.fails("the 21st", Due.STATE, () -> lane.batch(0, 0, 1));
        DUE.fails("the 21st, of no pieces", Due.ARGUMENT, () -> lane.batch(0, 0, 0));
        DUE.fails("the 21st, of no part", Due.INDEX, () -> lane.batch(1, 0, 0));
        DUE.batch("the last one", lane, 19, CUT, 7, 0, 106);
        DUE.fails("there is no 21st", Due.INDEX, () -> lane.batchOf(20, 0));
    }

    private static void work() {
        PressbrakeLane lane = withPart();
        lane.batch(0, 0, 5);
        lane.batch(0, 0, 6);
        DUE.is("CUT to BENT", BENT, () -> lane.work(0));
        DUE.batch("BENT", lane, 0, BENT, 5, 0, 106);
        DUE.batch("the other one", lane, 1, CUT, 6, 0, 106);
        DUE.is("BENT to COATED", COATED, () -> lane.work(0));
        DUE.fails("COATED", Due.STATE, () -> lane.work(0));
        DUE.batch("COATED", lane, 0, COATED, 5, 0, 106);
        draw(lane, 70, UP, 60);
        lane.redraw(0, 100, 2);
        DUE.fails("SCRAP", Due.STATE, () -> lane.work(1));
        DUE.batch("SCRAP", lane, 1, SCRAP, 6, 0, 106);
        DUE.fails("no such batch", Due.INDEX, () -> lane.work(2));
        DUE.fails("batch -1", Due.INDEX, () -> lane.work(-1));
    }

    private static void workWithoutOrder() {
        PressbrakeLane lane = withPart();
        lane.tool(60, 0, 200, 10, 20);
        lane.face(10, UP);
        lane.part(100, 4);
        lane.batch(0, 1, 5);
        lane.batch(0, 0, 5);
        lane.batch(1, 1, 5);
        DUE.fails("no order by its tool", Due.STATE, () -> lane.work(0));
        DUE.batch("it stays CUT", lane, 0, CUT, 5, 0, 106);
        DUE.is("by the other tool", BENT, () -> lane.work(1));
        DUE.is("no bends at all", BENT, () -> lane.work(2));
        // The blank is as long and 20 is within the gauge, but less than 30 and 2.
        draw(lane, 90, UP, 20);
        lane.redraw(0, 100, 2);
        DUE.fails("20 is SHORT", Due.STATE, () -> lane.work(0));
        PressbrakeLane other = withPart();
        other.tool(4, 0, 200, 10, 40);
        other.batch(0, 1, 5);
        DUE.fails("beyond the gauge", Due.STATE, () -> other.work(0));
        draw(other, 70, UP, 40);
        other.redraw(0, 100, 2);
        DUE.is("by the new drawing", BENT, () -> other.work(0));
    }

    private static void batchOf() {
        PressbrakeLane lane = withPart();
        draw(lane, 50, UP, 60);
        lane.redraw(0, 100, 2);
        lane.batch(0, 0, 9);
        lane.trial(0, 2, 1);
        lane.batch(0, 0, 8);
        DUE.batch("cut ahead of the trial", lane, 0, CUT, 9, 1, 106);
        DUE.batch("cut behind the trial", lane, 1, CUT, 8, 1, 109);
        DUE.fails("what -1", Due.ARGUMENT, () -> lane.batchOf(0, -1));
        DUE.fails("what 4", Due.ARGUMENT, () -> lane.batchOf(0, 4));
        DUE.fails("no such batch", Due.INDEX, () -> lane.batchOf(2, 4));
        DUE.fails("batch -1", Due.INDEX, () -> lane.batchOf(-1, 0));
    }

    private static void cutGoesOn() {
        PressbrakeLane lane = withPart();
        lane.batch(0, 0, 5);
        draw(lane, 60, DOWN, 50);
        DUE.is("blanks as long", 0, () -> lane.redraw(0, 100, 2));
        DUE.batch("it goes on", lane, 0, CUT, 5, 1, 106);
        lane.trial(0, 2, 0);
        draw(lane, 60, DOWN, 46);
        DUE.is("as long by the new trial", 0, () -> lane.redraw(0, 100, 2));
        DUE.batch("it goes on", lane, 0, CUT, 5, 2, 106);
        lane.face(106, UP);
        DUE.is("a face of 106", 0, () -> lane.redraw(0, 100, 2));
        DUE.batch("it goes on", lane, 0, CUT, 5, 3, 106);
        lane.face(106, UP);
        DUE.is("and the same again", 0, () -> lane.redraw(0, 100, 2));
        DUE.batch("it goes on", lane, 0, CUT, 5, 4, 106);
    }

    private static void cutIsScrap() {
        checkCutScrap("another width", 101, 2, 50, 60, 4);
        checkCutScrap("another thickness, blanks as long", 100, 3, 50, 60, 4);
        checkCutScrap("blanks one longer", 100, 2, 50, 61, 4);
        checkCutScrap("blanks one shorter", 100, 2, 49, 60, 4);
        checkCutScrap("another deduction since", 100, 2, 50, 60, 5);
    }

    private static void checkCutScrap(String what, int width, int thickness, int first, int second, int deduction) {
        PressbrakeLane lane = withPart();
        lane.batch(0, 0, 5);
        lane.trial(0, 2, deduction);
        lane.trial(0, 3, 4);
        draw(lane, first, UP, second);
        DUE.is(what, 5, () -> lane.redraw(0, width, thickness));
        DUE.batch(what, lane, 0, SCRAP, 5, 0, 106);
    }

    private static void bentGoesOn() {
        PressbrakeLane lane = withPart();
        lane.batch(0, 0, 5);
        lane.work(0);
        lane.trial(0, 2, 9);
        lane.face(50, DOWN);
        lane.face(60, UP);
        DUE.is("the same, but for the first direction and the trial", 0, () -> lane.redraw(0, 100, 2));
        DUE.batch("BENT goes on", lane, 0, BENT, 5, 1, 106);
        lane.work(0);
        draw(lane, 50, UP, 60);
        DUE.is("the same", 0, () -> lane.redraw(0, 100, 2));
        DUE.batch("COATED goes on", lane, 0, COATED, 5, 2, 106);
        DUE.is("and is in kits", 5, () -> lane.kits(1));
    }

    private static void bentIsScrap() {
        for (int coats = 0; coats < 2; coats++) {
            checkBentScrap("another bend", coats, 100, 2, 50, DOWN, 60);
            checkBentScrap("other faces, blanks as long", coats, 100, 2, 60, UP, 50);
            checkBentScrap("another face", coats, 100, 2, 50, UP, 61);
            checkBentScrap("another width", coats, 99, 2, 50, UP, 60);
            checkBentScrap("another thickness", coats, 100, 1, 50, UP, 60);
            checkBentScrap("one face more", coats, 100, 2, 50, UP, 60, 10);
            checkBentScrap("one face less", coats, 100, 2, 50);
        }
    }

    private static void checkBentScrap(String what, int coats, int width, int thickness, int... drawing) {
        PressbrakeLane lane = withPart();
        lane.batch(0, 0, 5);
        lane.work(0);
        if (coats > 0) {
            lane.work(0);
        }
        lane.face(drawing[0], UP);
        if (drawing.length > 1) {
            lane.face(drawing[2], drawing[1]);
        }
        if (drawing.length > 3) {
            lane.face(drawing[3], UP);
        }
        DUE.is(what, 5, () -> lane.redraw(0, width, thickness));
        DUE.batch(what, lane, 0, SCRAP, 5, 0, 106);
        DUE.is(what + ", no kits", 0, () -> lane.kits(1));
    }

    private static void coatedWithoutPieces() {
        PressbrakeLane lane = withPart();
        coated(lane, 0, 5);
        lane.take(1, 5);
        draw(lane, 50, UP, 60);
        DUE.is("the same", 0, () -> lane.redraw(0, 100, 2));
        DUE.batch("it goes on", lane, 0, COATED, 0, 1, 106);
        draw(lane, 50, UP, 61);
        DUE.is("another one", 0, () -> lane.redraw(0, 100, 2));
        DUE.batch("it is SCRAP, of no pieces", lane, 0, SCRAP, 0, 1, 106);
    }

    private static void scrapOfSeveral() {
        PressbrakeLane lane = withPart();
        draw(lane, 50, UP, 60);
        lane.part(100, 2);
        coated(lane, 0, 5);
        lane.take(1, 2);
        lane.batch(1, 0, 7);
        lane.batch(0, 0, 11);
        lane.batch(0, 0, 13);
        lane.work(3);
        draw(lane, 60, UP, 50);
        DUE.is("COATED and BENT, not CUT", 3 + 13, () -> lane.redraw(0, 100, 2));
        DUE.batch("COATED", lane, 0, SCRAP, 3, 0, 106);
        DUE.batch("of another part", lane, 1, CUT, 7, 0, 106);
        DUE.batch("CUT", lane, 2, CUT, 11, 1, 106);
        DUE.batch("BENT", lane, 3, SCRAP, 13, 0, 106);
        draw(lane, 60, UP, 51);
        DUE.is("SCRAP does not count again", 11, () -> lane.redraw(0, 100, 2));
        draw(lane, 60, UP, 51);
        DUE.is("nothing is left", 0, () -> lane.redraw(0, 100, 2));
        DUE.batch("SCRAP stays of its revision", lane, 0, SCRAP, 3, 0, 106);
        DUE.batch("of another part", lane, 1, CUT, 7, 0, 106);
    }

    private static void elderHoles() {
        for (int works = 0; works < 3; works++) {
            PressbrakeLane lane = withPart();
            lane.hole(0, 0, 10, 5);
            lane.batch(0, 0, 5);
            for (int i = 0; i < works; i++) {
                lane.work(0);
            }
            draw(lane, 50, UP, 60);
            DUE.is("the elder drawing had a hole, " + works, 5, () -> lane.redraw(0, 100, 2));
            DUE.batch("the elder drawing had a hole", lane, 0, SCRAP, 5, 0, 106);
            lane.batch(0, 0, 6);
            draw(lane, 50, UP, 60);
            DUE.is("the elder drawing had none, " + works, 0, () -> lane.redraw(0, 100, 2));
            DUE.batch("the elder drawing had none", lane, 1, CUT, 6, 2, 106);
        }
    }

    private static void kits() {
        PressbrakeLane lane = withPart();
        draw(lane, 30, UP, 30);
        lane.part(50, 1);
        DUE.is("none yet", 0, () -> lane.kits(3));
        coated(lane, 0, 5);
        DUE.is("only one part", 0, () -> lane.kits(3));
        DUE.is("of the one part", 5, () -> lane.kits(1));
        coated(lane, 1, 3);
        coated(lane, 0, 6);
        lane.batch(1, 0, 50);
        DUE.is("CUT pieces don't count", 3, () -> lane.kits(2));
        lane.work(3);
        DUE.is("BENT pieces don't count", 3, () -> lane.kits(2));
        DUE.is("two batches together", 11, () -> lane.kits(1));
        DUE.is("the fewest of both", 3, () -> lane.kits(3));
        lane.work(3);
        DUE.is("COATED pieces do", 53, () -> lane.kits(2));
        DUE.is("the fewest of both", 11, () -> lane.kits(3));
        PressbrakeLane full = withPart();
        for (int i = 0; i < 20; i++) {
            coated(full, 0, 50);
        }
        DUE.is("all that there can be", 1000, () -> full.kits(1));
    }

    private static void kitsFail() {
        PressbrakeLane lane = withPart();
        DUE.fails("no part", Due.ARGUMENT, () -> lane.kits(0));
        DUE.fails("no such part", Due.ARGUMENT, () -> lane.kits(2));
        DUE.fails("one is no part", Due.ARGUMENT, () -> lane.kits(3));
        DUE.fails("below 0", Due.ARGUMENT, () -> lane.kits(-1));
        DUE.fails("the lowest", Due.ARGUMENT, () -> lane.kits(Integer.MIN_VALUE + 1));
        PressbrakeLane full = withPart();
        for (int i = 1; i < 8; i++) {
            draw(full, 50, UP, 60);
            full.part(100, 2);
        }
        DUE.is("eight parts", 0, () -> full.kits(255));
        DUE.fails("nine parts", Due.ARGUMENT, () -> full.kits(256));
    }

    private static void take() {
        PressbrakeLane lane = withPart();
        coated(lane, 0, 5);
        lane.batch(0, 0, 9);
        coated(lane, 0, 6);
        coated(lane, 0, 7);
        DUE.is("of the lowest first", 0, () -> lane.take(1, 4));
        DUE.batch("one is left", lane, 0, COATED, 1);
        DUE.batch("the next one is whole", lane, 2, COATED, 6);
        DUE.is("two are emptied", 2, () -> lane.take(1, 7));
        DUE.batch("emptied", lane, 0, COATED, 0);
        DUE.batch("CUT stays", lane, 1, CUT, 9);
        DUE.batch("emptied", lane, 2, COATED, 0);
        DUE.batch("the last one is whole", lane, 3, COATED, 7);
        DUE.is("emptied ones don't count again", 0, () -> lane.take(1, 6));
        DUE.is("one kit is left", 1, () -> lane.kits(1));
        DUE.is("the last one", 1, () -> lane.take(1, 1));
        DUE.fails("emptied ones are not worked", Due.STATE, () -> lane.work(0));
        PressbrakeLane full = withPart();
        coated(full, 0, 50);
        DUE.is("50 at once", 1, () -> full.take(1, 50));
    }

    private static void takeOfSeveralParts() {
        PressbrakeLane lane = withPart();
        draw(lane, 50, UP, 60);
        lane.part(100, 2);
        draw(lane, 50, UP, 60);
        lane.part(100, 2);
        coated(lane, 2, 4);
        coated(lane, 1, 4);
        coated(lane, 0, 4);
        DUE.is("of two parts", 0, () -> lane.take(5, 3));
        DUE.batch("of part 2", lane, 0, COATED, 1);
        DUE.batch("of part 1, which is not in the kit", lane, 1, COATED, 4);
        DUE.batch("of part 0", lane, 2, COATED, 1);
        DUE.fails("part 1 has four, the others one", Due.STATE, () -> lane.take(7, 2));
        DUE.batch("nothing is taken", lane, 1, COATED, 4);
        DUE.is("two are emptied", 2, () -> lane.take(7, 1));
        DUE.batch("of part 1", lane, 1, COATED, 3);
    }

    private static void takeFails() {
        PressbrakeLane lane = withPart();
        coated(lane, 0, 5);
        DUE.fails("no part", Due.ARGUMENT, () -> lane.take(0, 1));
        DUE.fails("no such part", Due.ARGUMENT, () -> lane.take(2, 1));
        DUE.fails("one is no part", Due.ARGUMENT, () -> lane.take(3, 51));
        DUE.fails("below 0", Due.ARGUMENT, () -> lane.take(-1, 1));
        DUE.fails("many 0", Due.ARGUMENT, () -> lane.take(1, 0));
        DUE.fails("many 51", Due.ARGUMENT, () -> lane.take(1, 51));
        DUE.fails("many -1", Due.ARGUMENT, () -> lane.take(1, -1));
        DUE.fails("one too many", Due.STATE, () -> lane.take(1, 6));
        DUE.batch("nothing is taken", lane, 0, COATED, 5);
        DUE.is("as many as there are", 1, () -> lane.take(1, 5));
    }
}
