/** Promises 1 to 8: a new object, the pad, parts and holes. */
public final class PartsTest {
    private static final int UP = PressbrakeLane.UP;
    private static final int DOWN = PressbrakeLane.DOWN;
    private static final Due DUE = new Due("PartsTest");

    public static void main(String[] args) {
        newObject();
        face();
        wipe();
        part();
        redraw();
        redrawFails();
        hole();
        holeWithBatches();
        isNear();
        isNearBetweenBends();
        told();
        DUE.end();
    }

    private static PressbrakeLane withPart(int width, int thickness, int... lengths) {
        PressbrakeLane lane = new PressbrakeLane();
        drawn(lane, lengths).part(width, thickness);
        return lane;
    }

    private static PressbrakeLane drawn(PressbrakeLane lane, int... lengths) {
        for (int length : lengths) {
            lane.face(length, UP);
        }
        return lane;
    }

    private static void newObject() {
        PressbrakeLane lane = new PressbrakeLane();
        DUE.is("a new pad", 0, () -> lane.wipe());
        DUE.is("a new lot", 0, () -> lane.clear());
        DUE.fails("no parts", Due.INDEX, () -> lane.told(0, 0));
        DUE.fails("no parts for kits", Due.ARGUMENT, () -> lane.kits(1));
        DUE.fails("no tools", Due.INDEX, () -> lane.trial(0, 1, 1));
        DUE.fails("no tools to nest by", Due.INDEX, () -> lane.nest(0, 100, 100, 0));
        DUE.fails("no batches", Due.INDEX, () -> lane.batchOf(0, 0));
        DUE.fails("no batches to work", Due.INDEX, () -> lane.work(0));
        PressbrakeLane other = withPart(10, 1, 10);
        DUE.is("objects stand alone", 1, () -> other.told(0, 1));
        DUE.fails("objects stand alone", Due.INDEX, () -> lane.told(0, 1));
    }

    private static void face() {
        PressbrakeLane lane = new PressbrakeLane();
        DUE.fails("face(9)", Due.ARGUMENT, () -> lane.face(9, UP));
        DUE.fails("face(201)", Due.ARGUMENT, () -> lane.face(201, UP));
        DUE.fails("face(min)", Due.ARGUMENT, () -> lane.face(Integer.MIN_VALUE, UP));
        DUE.fails("direction -1", Due.ARGUMENT, () -> lane.face(10, -1));
        DUE.fails("direction 2 of the first face", Due.ARGUMENT, () -> lane.face(10, 2));
        DUE.is("face(10)", 1, () -> lane.face(10, DOWN));
        DUE.is("face(200)", 2, () -> lane.face(200, UP));
        for (int i = 3; i <= 6; i++) {
            int due = i;
            DUE.is("face " + i, due, () -> lane.face(50, due % 2));
        }
        DUE.fails("the seventh face", Due.STATE, () -> lane.face(50, UP));
        DUE.fails("the seventh face, too short", Due.ARGUMENT, () -> lane.face(9, UP));
        DUE.fails("the seventh face, no direction", Due.ARGUMENT, () -> lane.face(50, 2));
        DUE.is("six faces stay", 6, () -> lane.wipe());
        DUE.is("the pad is empty then", 1, () -> lane.face(50, UP));
    }

    private static void wipe() {
        PressbrakeLane lane = drawn(new PressbrakeLane(), 10, 20, 30);
        DUE.is("wipe of three", 3, () -> lane.wipe());
        DUE.is("wipe of none", 0, () -> lane.wipe());
        DUE.fails("part of a wiped pad", Due.STATE, () -> lane.part(10, 1));
        PressbrakeLane other = withPart(10, 1, 10);
        other.wipe();
        DUE.is("parts stay", 1, () -> other.told(0, 1));
    }

    private static void part() {
        PressbrakeLane lane = new PressbrakeLane();
        DUE.fails("part of an empty pad", Due.STATE, () -> lane.part(10, 1));
        DUE.fails("part of an empty pad, too narrow", Due.ARGUMENT, () -> lane.part(9, 1));
        lane.face(10, UP);
        DUE.fails("part(9, 1)", Due.ARGUMENT, () -> lane.part(9, 1));
        DUE.fails("part(301, 1)", Due.ARGUMENT, () -> lane.part(301, 1));
        DUE.fails("part(10, 0)", Due.ARGUMENT, () -> lane.part(10, 0));
        DUE.fails("part(10, 5)", Due.ARGUMENT, () -> lane.part(10, 5));
        DUE.is("part(10, 1)", 0, () -> lane.part(10, 1));
        DUE.is("the pad is empty then", 0, () -> lane.wipe());
        lane.face(10, UP);
        DUE.is("part(300, 4)", 1, () -> lane.part(300, 4));
        for (int i = 2; i < 8; i++) {
            int due = i;
            drawn(lane, 20, 20);
            DUE.is("part " + i, due, () -> lane.part(100, 2));
        }
        drawn(lane, 20, 20);
        DUE.fails("the ninth part", Due.STATE, () -> lane.part(100, 2));
        DUE.fails("the ninth part, too narrow", Due.ARGUMENT, () -> lane.part(9, 2));
        DUE.is("the pad stays", 2, () -> lane.wipe());
        DUE.is("the last part", 2, () -> lane.told(7, 1));
        DUE.fails("there is no ninth", Due.INDEX, () -> lane.told(8, 1));
    }

    private static void redraw() {
        PressbrakeLane lane = withPart(100, 2, 50, 40);
        drawn(lane, 60).part(200, 3);
        lane.hole(0, 0, 20, 5);
        drawn(lane, 30, 20, 10);
        DUE.is("redraw without batches", 0, () -> lane.redraw(0, 300, 4));
        DUE.is("revision", 1, () -> lane.told(0, 0));
        DUE.is("faces", 3, () -> lane.told(0, 1));
        DUE.is("width", 300, () -> lane.told(0, 2));
        DUE.is("thickness", 4, () -> lane.told(0, 3));
        DUE.is("holes", 0, () -> lane.told(0, 4));
        DUE.is("the pad is empty then", 0, () -> lane.wipe());
        DUE.is("the other part stays", 0, () -> lane.told(1, 0));
        DUE.is("the other part's width", 200, () -> lane.told(1, 2));
        lane.face(200, DOWN);
        DUE.is("once more", 0, () -> lane.redraw(0, 10, 1));
        DUE.is("revision", 2, () -> lane.told(0, 0));
        DUE.is("the new holes begin at 0", 0, () -> lane.hole(0, 0, 199, 1));
    }

    private static void redrawFails() {
        PressbrakeLane lane = withPart(100, 2, 50, 40);
        DUE.fails("redraw by an empty pad", Due.STATE, () -> lane.redraw(0, 100, 2));
        DUE.fails("width ahead of the pad", Due.ARGUMENT, () -> lane.redraw(0, 9, 2));
        DUE.fails("the part ahead of all", Due.INDEX, () -> lane.redraw(1, 9, 2));
        DUE.fails("redraw(-1)", Due.INDEX, () -> lane.redraw(-1, 100, 2));
        drawn(lane, 30);
        DUE.fails("redraw(1)", Due.INDEX, () -> lane.redraw(1, 100, 2));
        DUE.fails("width 9", Due.ARGUMENT, () -> lane.redraw(0, 9, 2));
        DUE.fails("width 301", Due.ARGUMENT, () -> lane.redraw(0, 301, 2));
        DUE.fails("thickness 0", Due.ARGUMENT, () -> lane.redraw(0, 100, 0));
        DUE.fails("thickness 5", Due.ARGUMENT, () -> lane.redraw(0, 100, 5));
        DUE.is("nothing is changed", 0, () -> lane.told(0, 0));
        DUE.is("nothing is changed", 2, () -> lane.told(0, 1));
        DUE.is("the pad stays", 1, () -> lane.wipe());
    }

    private static void hole() {
        PressbrakeLane lane = withPart(100, 2, 50, 40);
        DUE.fails("no such part", Due.INDEX, () -> lane.hole(1, 0, 0, 0));
        DUE.fails("part -1", Due.INDEX, () -> lane.hole(-1, 0, 10, 5));
        DUE.fails("no such face", Due.INDEX, () -> lane.hole(0, 2, 0, 0));
        DUE.fails("face -1", Due.INDEX, () -> lane.hole(0, -1, 10, 5));
        DUE.fails("at 0", Due.ARGUMENT, () -> lane.hole(0, 0, 0, 5));
        DUE.fails("at 50 of 50", Due.ARGUMENT, () -> lane.hole(0, 0, 50, 5));
        DUE.fails("at 40 of 40", Due.ARGUMENT, () -> lane.hole(0, 1, 40, 5));
        DUE.fails("diameter 0", Due.ARGUMENT, () -> lane.hole(0, 0, 10, 0));
        DUE.fails("diameter 21", Due.ARGUMENT, () -> lane.hole(0, 0, 10, 21));
        DUE.is("at 1, diameter 1", 0, () -> lane.hole(0, 0, 1, 1));
        DUE.is("at 49, diameter 20", 1, () -> lane.hole(0, 0, 49, 20));
        DUE.is("at 39 of 40", 2, () -> lane.hole(0, 1, 39, 20));
        for (int i = 3; i < 6; i++) {
            int due = i;
            DUE.is("hole " + i, due, () -> lane.hole(0, 0, 10, 5));
        }
        DUE.fails("the seventh hole", Due.STATE, () -> lane.hole(0, 0, 10, 5));
        DUE.fails("the seventh hole, at 0", Due.ARGUMENT, () -> lane.hole(0, 0, 0, 5));
        DUE.fails("the seventh hole, no face", Due.INDEX, () -> lane.hole(0, 2, 10, 5));
        DUE.is("six stay", 6, () -> lane.told(0, 4));
    }

    private static void holeWithBatches() {
        PressbrakeLane lane = withPart(100, 2, 50);
        drawn(lane, 50).part(100, 2);
        lane.tool(4, 0, 10, 10, 20);
        lane.batch(0, 0, 3);
        DUE.fails("with a CUT batch", Due.STATE, () -> lane.hole(0, 0, 10, 5));
        DUE.fails("with a CUT batch, at 0", Due.ARGUMENT, () -> lane.hole(0, 0, 0, 5));
        DUE.is("the other part", 0, () -> lane.hole(1, 0, 10, 5));
        lane.work(0);
        DUE.fails("with a BENT batch", Due.STATE, () -> lane.hole(0, 0, 10, 5));
        lane.work(0);
        DUE.fails("with a COATED batch", Due.STATE, () -> lane.hole(0, 0, 10, 5));
        lane.take(1, 3);
        DUE.fails("with a COATED batch without pieces", Due.STATE, () -> lane.hole(0, 0, 10, 5));
        drawn(lane, 60).redraw(0, 100, 2);
        DUE.is("with a SCRAP batch", 0, () -> lane.hole(0, 0, 10, 5));
        lane.batch(0, 0, 1);
        DUE.fails("with a SCRAP batch and a CUT one", Due.STATE, () -> lane.hole(0, 0, 10, 5));
    }

    private static void isNear() {
        PressbrakeLane lane = withPart(100, 2, 50, 40);
        // The reach is 4 and 3 of the diameter 7.
        lane.hole(0, 0, 44, 7);
        lane.hole(0, 0, 43, 7);
        lane.hole(0, 0, 1, 20);
        lane.hole(0, 1, 6, 7);
        lane.hole(0, 1, 7, 6);
        lane.hole(0, 1, 39, 20);
        DUE.is("6 from the bend behind", 1, () -> lane.isNear(0, 0) ? 1 : 0);
        DUE.is("7 from the bend behind", 0, () -> lane.isNear(0, 1) ? 1 : 0);
        DUE.is("no bend ahead of the first face", 0, () -> lane.isNear(0, 2) ? 1 : 0);
        DUE.is("6 from the bend ahead", 1, () -> lane.isNear(0, 3) ? 1 : 0);
        DUE.is("7 from the bend ahead", 0, () -> lane.isNear(0, 4) ? 1 : 0);
        DUE.is("no bend behind the last face", 0, () -> lane.isNear(0, 5) ? 1 : 0);
        DUE.is("two are near", 2, () -> lane.told(0, 5));
        DUE.is("six holes", 6, () -> lane.told(0, 4));
        DUE.fails("no such hole", Due.INDEX, () -> lane.isNear(0, 6) ? 1 : 0);
        DUE.fails("hole -1", Due.INDEX, () -> lane.isNear(0, -1) ? 1 : 0);
        DUE.fails("no such part", Due.INDEX, () -> lane.isNear(1, 0) ? 1 : 0);
        DUE.fails("part -1", Due.INDEX, () -> lane.isNear(-1, 0) ? 1 : 0);
        drawn(lane, 50).redraw(0, 100, 2);
        DUE.fails("no hole any more", Due.INDEX, () -> lane.isNear(0, 0) ? 1 : 0);
    }

    private static void isNearBetweenBends() {
        PressbrakeLane lane = withPart(100, 4, 10, 60, 10);
        // The reach is 8 and 10.
        lane.hole(0, 1, 17, 20);
        lane.hole(0, 1, 18, 20);
        lane.hole(0, 1, 42, 20);
        lane.hole(0, 1, 43, 20);
        DUE.is("17 behind the first bend", 1, () -> lane.isNear(0, 0) ? 1 : 0);
        DUE.is("18 behind the first bend", 0, () -> lane.isNear(0, 1) ? 1 : 0);
        DUE.is("18 ahead of the last bend", 0, () -> lane.isNear(0, 2) ? 1 : 0);
        DUE.is("17 ahead of the last bend", 1, () -> lane.isNear(0, 3) ? 1 : 0);
        PressbrakeLane thin = withPart(100, 1, 10, 60);
        thin.hole(0, 1, 1, 1);
        thin.hole(0, 1, 2, 1);
        thin.hole(0, 1, 2, 2);
        DUE.is("half of 1 is 0", 1, () -> thin.isNear(0, 0) ? 1 : 0);
        DUE.is("half of 1 is 0", 0, () -> thin.isNear(0, 1) ? 1 : 0);
        DUE.is("half of 2 is 1", 1, () -> thin.isNear(0, 2) ? 1 : 0);
        PressbrakeLane flat = withPart(100, 4, 10);
        flat.hole(0, 0, 5, 20);
        DUE.is("no bends at all", 0, () -> flat.isNear(0, 0) ? 1 : 0);
    }

    private static void told() {
        PressbrakeLane lane = withPart(120, 3, 50, 40, 30, 20);
        lane.hole(0, 0, 49, 1);
        lane.hole(0, 0, 10, 1);
        int[] due = {0, 4, 120, 3, 2, 1};
        for (int i = 0; i < due.length; i++) {
            int what = i;
            DUE.is("told(0, " + i + ")", due[i], () -> lane.told(0, what));
        }
        DUE.fails("told(0, 6)", Due.ARGUMENT, () -> lane.told(0, 6));
        DUE.fails("told(0, -1)", Due.ARGUMENT, () -> lane.told(0, -1));
        DUE.fails("told(1, 0)", Due.INDEX, () -> lane.told(1, 0));
        DUE.fails("told(1, 6)", Due.INDEX, () -> lane.told(1, 6));
        DUE.fails("told(-1, 0)", Due.INDEX, () -> lane.told(-1, 0));
    }
}
