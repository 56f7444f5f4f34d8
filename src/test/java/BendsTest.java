/** Promises 9 to 16: tools, trials, blanks, reasons, wings and orders. */
public final class BendsTest {
    private static final int UP = PressbrakeLane.UP;
    private static final int DOWN = PressbrakeLane.DOWN;
    private static final int CAN = PressbrakeLane.CAN;
    private static final int SHORT = PressbrakeLane.SHORT;
    private static final int GAUGE = PressbrakeLane.GAUGE;
    private static final int PUNCH = PressbrakeLane.PUNCH;
    private static final int TABLE = PressbrakeLane.TABLE;
    private static final int NONE = PressbrakeLane.NONE;
    private static final Due DUE = new Due("BendsTest");

    public static void main(String[] args) {
        tool();
        trial();
        blank();
        whyShort();
        whyGauge();
        whyPunch();
        whyTable();
        whyFails();
        firstReason();
        point();
        pointTurnsBack();
        pointFails();
        flips();
        fewestTurnsFirst();
        firstOfSeveral();
        twoTurns();
        orderByOneCall();
        noOrder();
        orderFails();
        DUE.end();
    }

    /** A part with the lengths and, by the letters U and D, its bends; width 100. */
    private static PressbrakeLane withPart(int thickness, String bends, int... lengths) {
        PressbrakeLane lane = new PressbrakeLane();
        Lanes.draw(lane, bends, lengths);
        lane.part(100, thickness);
        return lane;
    }

    private static void tool() {
        PressbrakeLane lane = new PressbrakeLane();
        DUE.fails("opening 3", Due.ARGUMENT, () -> lane.tool(3, 0, 10, 10, 20));
        DUE.fails("opening 61", Due.ARGUMENT, () -> lane.tool(61, 0, 10, 10, 20));
        DUE.fails("punch -1", Due.ARGUMENT, () -> lane.tool(4, -1, 10, 10, 20));
        DUE.fails("punch 31", Due.ARGUMENT, () -> lane.tool(4, 31, 10, 10, 20));
        DUE.fails("die 9", Due.ARGUMENT, () -> lane.tool(4, 0, 9, 10, 20));
        DUE.fails("die 201", Due.ARGUMENT, () -> lane.tool(4, 0, 201, 10, 20));
        DUE.fails("table 9", Due.ARGUMENT, () -> lane.tool(4, 0, 10, 9, 20));
        DUE.fails("table 201", Due.ARGUMENT, () -> lane.tool(4, 0, 10, 201, 20));
        DUE.fails("gauge 19", Due.ARGUMENT, () -> lane.tool(4, 0, 10, 10, 19));
        DUE.fails("gauge 601", Due.ARGUMENT, () -> lane.tool(4, 0, 10, 10, 601));
        DUE.is("the smallest", 0, () -> lane.tool(4, 0, 10, 10, 20));
        DUE.is("the largest", 1, () -> lane.tool(60, 30, 200, 200, 600));
        DUE.is("the third", 2, () -> lane.tool(4, 0, 10, 10, 20));
        DUE.is("the fourth", 3, () -> lane.tool(4, 0, 10, 10, 20));
        DUE.fails("the fifth", Due.STATE, () -> lane.tool(4, 0, 10, 10, 20));
        DUE.fails("the fifth, opening 3", Due.ARGUMENT, () -> lane.tool(3, 0, 10, 10, 20));
        DUE.is("there is a fourth", 2, () -> lane.trial(3, 1, 1));
        DUE.fails("there is no fifth", Due.INDEX, () -> lane.trial(4, 1, 1));
    }

    private static void trial() {
        PressbrakeLane lane = new PressbrakeLane();
        lane.tool(4, 0, 10, 10, 20);
        lane.tool(4, 0, 10, 10, 20);
        for (int i = 1; i <= 4; i++) {
            int thickness = i;
            DUE.is("twice the thickness " + i, 2 * i, () -> lane.trial(0, thickness, thickness + 5));
        }
        for (int i = 1; i <= 4; i++) {
            int thickness = i;
            DUE.is("the last trial of " + i, i + 5, () -> lane.trial(0, thickness, 0));
            DUE.is("the other tool, " + i, 2 * i, () -> lane.trial(1, thickness, 9));
        }
        DUE.fails("thickness 0", Due.ARGUMENT, () -> lane.trial(0, 0, 5));
        DUE.fails("thickness 5", Due.ARGUMENT, () -> lane.trial(0, 5, 5));
        DUE.fails("deduction -1", Due.ARGUMENT, () -> lane.trial(0, 1, -1));
        DUE.fails("deduction 10", Due.ARGUMENT, () -> lane.trial(0, 1, 10));
        DUE.fails("no such tool", Due.INDEX, () -> lane.trial(2, 0, 10));
        DUE.fails("tool -1", Due.INDEX, () -> lane.trial(-1, 1, 5));
        DUE.is("nothing is changed", 0, () -> lane.trial(0, 1, 0));
    }

    private static void blank() {
        PressbrakeLane lane = withPart(2, "UD", 50, 40, 30);
        Lanes.draw(lane, "", 70);
        lane.part(100, 2);
        Lanes.draw(lane, "UUUUU", 10, 10, 10, 10, 10, 10);
        lane.part(100, 4);
        lane.tool(4, 0, 10, 10, 20);
        lane.tool(4, 0, 10, 10, 20);
        DUE.is("less 4 for each of two bends", 112, () -> lane.blank(0, 0));
        DUE.is("no bends, no deduction", 70, () -> lane.blank(1, 0));
        DUE.is("less 8 for each of five bends", 20, () -> lane.blank(2, 0));
        lane.trial(0, 2, 9);
        lane.trial(0, 4, 0);
        DUE.is("as the trial told", 102, () -> lane.blank(0, 0));
        DUE.is("the other tool", 112, () -> lane.blank(0, 1));
        DUE.is("no deduction", 60, () -> lane.blank(2, 0));
        DUE.fails("no such part", Due.INDEX, () -> lane.blank(3, 0));
        DUE.fails("no such tool", Due.INDEX, () -> lane.blank(0, 2));
        DUE.fails("part -1", Due.INDEX, () -> lane.blank(-1, 0));
        DUE.fails("tool -1", Due.INDEX, () -> lane.blank(0, -1));
    }

    private static void whyShort() {
        PressbrakeLane lane = withPart(2, "UU", 10, 30, 12);
        lane.tool(17, 0, 200, 10, 600);
        lane.tool(18, 0, 200, 10, 600);
        DUE.is("a run of 10 for 8 and 2", CAN, () -> lane.why(0, 0, 0, 0));
        DUE.is("a run of 10 for 9 and 2", SHORT, () -> lane.why(0, 1, 0, 0));
        DUE.is("the right wing", CAN, () -> lane.why(0, 1, 0, 1));
        lane.tool(22, 0, 200, 10, 600);
        DUE.is("a run of 12 for 11 and 2, to the right", SHORT, () -> lane.why(0, 2, 0, 1));
        PressbrakeLane two = withPart(1, "UU", 10, 10, 30);
        two.tool(20, 0, 200, 10, 600);
        DUE.is("faces run on at a bend that was not done", CAN, () -> two.why(0, 0, 0, 1));
        DUE.is("and not at one that was", SHORT, () -> two.why(0, 0, 1, 1));
        PressbrakeLane long4 = withPart(1, "UDU", 30, 30, 10, 30);
        long4.tool(18, 0, 200, 10, 600);
        DUE.is("faces behind a bend that was done don't count", CAN, () -> long4.why(0, 0, 3, 2));
    }

    private static void whyGauge() {
        PressbrakeLane lane = withPart(1, "U", 21, 21);
        lane.tool(4, 0, 200, 10, 20);
        lane.tool(4, 0, 200, 10, 21);
        DUE.is("both are longer", GAUGE, () -> lane.why(0, 0, 0, 0));
        DUE.is("none is longer", CAN, () -> lane.why(0, 1, 0, 0));
        PressbrakeLane left = withPart(1, "U", 20, 200);
        left.tool(4, 0, 200, 10, 20);
        DUE.is("the left one is not", CAN, () -> left.why(0, 0, 0, 0));
        PressbrakeLane right = withPart(1, "U", 200, 20);
        right.tool(4, 0, 200, 10, 20);
        DUE.is("the right one is not", CAN, () -> right.why(0, 0, 0, 0));
        PressbrakeLane far = withPart(1, "UU", 15, 15, 100);
        far.tool(4, 0, 200, 10, 20);
        DUE.is("the run over a bend that was not done", GAUGE, () -> far.why(0, 0, 0, 1));
        DUE.is("the run up to one that was done", CAN, () -> far.why(0, 0, 1, 1));
    }

    private static void whyPunch() {
        PressbrakeLane lane = withPart(1, "UU", 30, 40, 35);
        lane.tool(4, 5, 200, 10, 600);
        lane.tool(4, 6, 200, 10, 600);
        DUE.is("35 and 5 are not above 40", CAN, () -> lane.why(0, 0, 2, 0));
        DUE.is("35 and 6 are above 40", PUNCH, () -> lane.why(0, 1, 2, 0));
        DUE.is("to the left, 30 and 6", CAN, () -> lane.why(0, 1, 1, 1));
        lane.tool(4, 11, 200, 10, 600);
        DUE.is("to the left, 30 and 11", PUNCH, () -> lane.why(0, 2, 1, 1));
        DUE.is("v is not above 0", CAN, () -> lane.why(0, 2, 0, 0));
        PressbrakeLane flat = withPart(1, "U", 10, 10);
        flat.tool(4, 30, 200, 10, 600);
        DUE.is("v is not above 0, the punch is above u", CAN, () -> flat.why(0, 0, 0, 0));
        PressbrakeLane down = withPart(1, "DD", 30, 40, 35);
        down.tool(4, 6, 200, 10, 600);
        DUE.is("DOWN at DOWN turns to the left too", PUNCH, () -> down.why(0, 0, 2, 0));
    }

    private static void whyTable() {
        PressbrakeLane lane = withPart(1, "UD", 51, 40, 50);
        lane.tool(4, 0, 50, 41, 600);
        lane.tool(4, 0, 49, 41, 600);
        lane.tool(4, 0, 49, 40, 600);
        lane.tool(4, 0, 10, 200, 600);
        DUE.is("50 below is not more than the die", CAN, () -> lane.why(0, 0, 2, 0));
        DUE.is("50 below is more than the die", TABLE, () -> lane.why(0, 1, 2, 0));
        DUE.is("u is not less than the table", CAN, () -> lane.why(0, 2, 2, 0));
        DUE.is("to the left, 51 below", TABLE, () -> lane.why(0, 0, 1, 1));
        DUE.is("to the left, u is not less", CAN, () -> lane.why(0, 2, 1, 1));
        DUE.is("not below at all", CAN, () -> lane.why(0, 3, 0, 0));
    }

    private static void whyFails() {
        PressbrakeLane lane = withPart(1, "UU", 30, 30, 30);
        Lanes.draw(lane, "", 30);
        lane.part(100, 1);
        lane.tool(4, 0, 200, 10, 600);
        DUE.fails("no such part", Due.INDEX, () -> lane.why(2, 0, 0, 0));
        DUE.fails("part -1", Due.INDEX, () -> lane.why(-1, 0, 0, 0));
        DUE.fails("no such tool", Due.INDEX, () -> lane.why(0, 1, 0, 0));
        DUE.fails("tool -1", Due.INDEX, () -> lane.why(0, -1, 0, 0));
        DUE.fails("no such bend", Due.INDEX, () -> lane.why(0, 0, 0, 2));
        DUE.fails("bend -1", Due.INDEX, () -> lane.why(0, 0, 0, -1));
        DUE.fails("no such bend ahead of done", Due.INDEX, () -> lane.why(0, 0, 4, 2));
        DUE.fails("a part without bends", Due.INDEX, () -> lane.why(1, 0, 0, 0));
        DUE.fails("done has the bend itself", Due.ARGUMENT, () -> lane.why(0, 0, 1, 0));
        DUE.fails("done has the bend itself and another", Due.ARGUMENT, () -> lane.why(0, 0, 3, 1));
        DUE.fails("done has bend 2", Due.ARGUMENT, () -> lane.why(0, 0, 4, 0));
        DUE.fails("done is below 0", Due.ARGUMENT, () -> lane.why(0, 0, Integer.MIN_VALUE, 0));
        DUE.fails("done is -1", Due.ARGUMENT, () -> lane.why(0, 0, -1, 0));
    }

    private static void firstReason() {
        // Bend 1 with bend 0 done: a left wing of 30, then 50 to the left; a right one of 40.
        PressbrakeLane up = withPart(1, "UU", 50, 30, 40);
        up.tool(60, 30, 200, 10, 20);
        up.tool(4, 30, 200, 10, 20);
        up.tool(4, 30, 200, 10, 30);
        DUE.is("SHORT ahead of GAUGE", SHORT, () -> up.why(0, 0, 1, 1));
        DUE.is("GAUGE ahead of PUNCH", GAUGE, () -> up.why(0, 1, 1, 1));
        DUE.is("PUNCH", PUNCH, () -> up.why(0, 2, 1, 1));
        // Bend 1 with all others done: PUNCH to the right, TABLE to the left.
        PressbrakeLane both = withPart(1, "DUU", 50, 30, 30, 40);
        both.tool(4, 0, 20, 200, 600);
        both.tool(4, 0, 20, 10, 600);
        DUE.is("PUNCH to the right ahead of TABLE to the left", PUNCH, () -> both.why(0, 0, 5, 1));
        DUE.is("TABLE to the left", TABLE, () -> both.why(0, 0, 1, 1));
        DUE.is("no TABLE, none", CAN, () -> both.why(0, 1, 1, 1));
    }

    private static void checkPoint(PressbrakeLane lane, int done, int bend, boolean isRight, int... due) {
        for (int i = 0; i < due.length / 2; i++) {
            int place = i;
            String what = (isRight ? "right" : "left") + " of " + bend + ", place " + i;
            DUE.is(what + ", u", due[2 * i], () -> lane.point(0, done, bend, isRight, place, false));
            DUE.is(what + ", v", due[2 * i + 1], () -> lane.point(0, done, bend, isRight, place, true));
        }
        DUE.fails("no face behind the wing", Due.INDEX,
                () -> lane.point(0, done, bend, isRight, due.length / 2, false));
    }

    private static void point() {
        PressbrakeLane lane = withPart(1, "UDDUD", 10, 20, 30, 40, 50, 60);
        checkPoint(lane, 0, 0, true, 20, 0, 50, 0, 90, 0, 140, 0, 200, 0);
        checkPoint(lane, 0, 0, false, 10, 0);
        // Bends DOWN and DOWN are to the right of an UP one, the bend 3 to the left, the bend 4 to the right.
        checkPoint(lane, 30, 0, true, 20, 0, 20, -30, -20, -30, -20, -80, -80, -80);
        // To the left of bend 4, which is DOWN: bend 3 to the right, 2 and 1 to the left, 0 to the right.
        checkPoint(lane, 15, 4, false, 50, 0, 50, -40, 80, -40, 80, -20, 90, -20);
        checkPoint(lane, 15, 4, true, 60, 0);
        // Only the bend 1 is done.
        checkPoint(lane, 2, 2, false, 30, 0, 30, 20, 30, 30);
        checkPoint(lane, 2, 2, true, 40, 0, 90, 0, 150, 0);
        checkPoint(lane, 2, 3, false, 40, 0, 70, 0, 70, -20, 70, -30);
    }

    private static void pointTurnsBack() {
        PressbrakeLane lane = withPart(1, "UUUUU", 10, 20, 30, 40, 50, 60);
        checkPoint(lane, 30, 0, true, 20, 0, 20, 30, -20, 30, -20, -20, 40, -20);
        checkPoint(lane, 15, 4, false, 50, 0, 50, 40, 20, 40, 20, 20, 30, 20);
        checkPoint(lane, 27, 2, true, 40, 0, 40, 50, -20, 50);
        checkPoint(lane, 27, 2, false, 30, 0, 30, 20, 20, 20);
    }

    private static void pointFails() {
        PressbrakeLane lane = withPart(1, "UU", 30, 30, 30);
        DUE.fails("no such part", Due.INDEX, () -> lane.point(1, 0, 0, true, 0, true));
        DUE.fails("part -1", Due.INDEX, () -> lane.point(-1, 0, 0, true, 0, true));
        DUE.fails("no such bend", Due.INDEX, () -> lane.point(0, 0, 2, false, 0, true));
        DUE.fails("bend -1", Due.INDEX, () -> lane.point(0, 0, -1, true, 0, true));
        DUE.fails("place -1", Due.INDEX, () -> lane.point(0, 0, 0, true, -1, true));
        DUE.fails("two faces to the right of bend 0", Due.INDEX, () -> lane.point(0, 0, 0, true, 2, true));
        DUE.fails("one face to the left of bend 0", Due.INDEX, () -> lane.point(0, 0, 0, false, 1, true));
        DUE.fails("one face to the right of bend 1", Due.INDEX, () -> lane.point(0, 0, 1, true, 1, true));
        DUE.fails("the place ahead of done", Due.INDEX, () -> lane.point(0, 4, 0, false, 1, true));
        DUE.fails("done has the bend itself", Due.ARGUMENT, () -> lane.point(0, 1, 0, true, 0, true));
        DUE.fails("done has bend 2", Due.ARGUMENT, () -> lane.point(0, 4, 0, true, 0, true));
        DUE.fails("done is below 0", Due.ARGUMENT, () -> lane.point(0, -4, 0, true, 0, true));
    }

    private static void flips() {
        PressbrakeLane flat = withPart(1, "", 10);
        flat.tool(60, 30, 10, 200, 20);
        DUE.order("one face", flat, 0, 0);
        PressbrakeLane one = withPart(1, "D", 30, 30);
        one.tool(4, 0, 200, 10, 600);
        DUE.order("one bend", one, 0, 0, 0);
        PressbrakeLane alike = withPart(1, "DDD", 30, 30, 30, 30);
        alike.tool(4, 0, 200, 10, 600);
        DUE.is("bend 2 behind 0 and 1: 30 back to u = 0, at v = 30", PUNCH, () -> alike.why(0, 0, 3, 2));
        DUE.order("three alike", alike, 0, 0, 0, 2, 1);
    }

    private static void fewestTurnsFirst() {
        PressbrakeLane lane = withPart(1, "UDU", 30, 30, 30, 30);
        lane.tool(4, 0, 200, 10, 600);
        DUE.order("one turn instead of two", lane, 0, 1, 0, 2, 1);
        PressbrakeLane five = alternating();
        DUE.is("bend 4 behind 0 and 2", PUNCH, () -> five.why(0, 0, 5, 4));
        DUE.order("all DOWN ones, then all UP ones", five, 0, 1, 0, 4, 2, 1, 3);
    }

    private static void firstOfSeveral() {
        // As in the shared run: bend 1 is not possible when 0 is done, so 1 comes first.
        PressbrakeLane lane = withPart(2, "UU", 50, 40, 30);
        lane.tool(16, 5, 60, 40, 300);
        DUE.is("bend 1 behind bend 0", PUNCH, () -> lane.why(0, 0, 1, 1));
        DUE.order("the possible one of two", lane, 0, 0, 1, 0);
        // Behind bend 0 the bend 1 is not possible, so of all orders with one turn only 1, 0, 2 and 1, 2, 0 are left.
        PressbrakeLane turned = withPart(1, "UDU", 50, 30, 20, 20);
        turned.tool(4, 0, 40, 60, 600);
        DUE.is("bend 1 behind bend 0", TABLE, () -> turned.why(0, 0, 1, 1));
        DUE.is("bend 0 behind bend 1", CAN, () -> turned.why(0, 0, 2, 0));
        DUE.order("two of one turn", turned, 0, 1, 1, 0, 2);
    }

    private static void twoTurns() {
        // Bend 1 is TABLE behind bend 2, and bend 0 is TABLE behind bend 1: only 0, 1, 2 is left.
        PressbrakeLane lane = withPart(1, "UDU", 10, 10, 20, 20);
        lane.tool(4, 0, 10, 100, 600);
        DUE.is("bend 1 behind bend 2", TABLE, () -> lane.why(0, 0, 4, 1));
        DUE.is("bend 0 behind bend 1", TABLE, () -> lane.why(0, 0, 2, 0));
        DUE.order("two turns", lane, 0, 2, 0, 1, 2);
    }

    /** Each of the calls must look for itself. */
    private static void orderByOneCall() {
        DUE.is("flipsAnew alone", 1, () -> alternating().flipsAnew(0, 0));
        DUE.is("flips alone", 1, () -> alternating().flips(0, 0));
        DUE.is("ordered alone", 4, () -> alternating().ordered(0, 0, 1));
    }

    private static PressbrakeLane alternating() {
        PressbrakeLane lane = withPart(1, "DUDUD", 10, 10, 10, 10, 10, 10);
        lane.tool(4, 0, 200, 10, 600);
        return lane;
    }

    private static void noOrder() {
        PressbrakeLane lane = withPart(4, "UU", 10, 10, 10);
        lane.tool(60, 0, 200, 10, 600);
        DUE.is("all are SHORT", NONE, () -> lane.flips(0, 0));
        DUE.is("all are SHORT, anew", NONE, () -> lane.flipsAnew(0, 0));
        DUE.is("no first place", NONE, () -> lane.ordered(0, 0, 0));
        DUE.is("no second place", NONE, () -> lane.ordered(0, 0, 1));
        // Bends 0 and 2 are possible, but 1 never is, once they are done or not.
        PressbrakeLane half = withPart(1, "UDU", 60, 10, 10, 60);
        half.tool(30, 0, 200, 10, 20);
        DUE.is("the last one is not possible", NONE, () -> half.flips(0, 0));
        DUE.is("the last one is not possible, anew", NONE, () -> half.flipsAnew(0, 0));
        DUE.is("no place of half an order", NONE, () -> half.ordered(0, 0, 0));
        // What an earlier call found must not show in a later one.
        Lanes.draw(half, "UDUDU", 20, 20, 20, 20, 20, 20);
        half.part(100, 1);
        half.tool(4, 0, 200, 10, 600);
        DUE.is("another part", 1, () -> half.flips(1, 1));
        DUE.is("the first one again", NONE, () -> half.ordered(0, 0, 0));
        Lanes.draw(half, "U", 60, 60);
        half.redraw(0, 100, 1);
        DUE.is("both runs are beyond the gauge", NONE, () -> half.flips(0, 0));
        DUE.is("by the other tool", 0, () -> half.flips(0, 1));
    }

    private static void orderFails() {
        PressbrakeLane lane = withPart(1, "UU", 30, 30, 30);
        lane.tool(4, 0, 200, 10, 600);
        DUE.fails("flips, no part", Due.INDEX, () -> lane.flips(1, 0));
        DUE.fails("flips, part -1", Due.INDEX, () -> lane.flips(-1, 0));
        DUE.fails("flips, no tool", Due.INDEX, () -> lane.flips(0, 1));
        DUE.fails("flips, tool -1", Due.INDEX, () -> lane.flips(0, -1));
        DUE.fails("flipsAnew, no part", Due.INDEX, () -> lane.flipsAnew(1, 0));
        DUE.fails("flipsAnew, part -1", Due.INDEX, () -> lane.flipsAnew(-1, 0));
        DUE.fails("flipsAnew, no tool", Due.INDEX, () -> lane.flipsAnew(0, 1));
        DUE.fails("flipsAnew, tool -1", Due.INDEX, () -> lane.flipsAnew(0, -1));
        DUE.fails("ordered, no part", Due.INDEX, () -> lane.ordered(1, 0, 0));
        DUE.fails("ordered, part -1", Due.INDEX, () -> lane.ordered(-1, 0, 0));
        DUE.fails("ordered, no tool", Due.INDEX, () -> lane.ordered(0, 1, 0));
        DUE.fails("ordered, tool -1", Due.INDEX, () -> lane.ordered(0, -1, 0));
        DUE.fails("ordered, place -1", Due.INDEX, () -> lane.ordered(0, 0, -1));
        DUE.fails("ordered, the lowest place", Due.INDEX, () -> lane.ordered(0, 0, Integer.MIN_VALUE));
    }
}
