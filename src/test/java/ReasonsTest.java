/** Promises 7 and 11 to 16 at their edges: "less than", "longer than", "above", "below" and "rounded down". */
public final class ReasonsTest {
    private static final int CAN = PressbrakeLane.CAN;
    private static final int SHORT = PressbrakeLane.SHORT;
    private static final int GAUGE = PressbrakeLane.GAUGE;
    private static final int PUNCH = PressbrakeLane.PUNCH;
    private static final int TABLE = PressbrakeLane.TABLE;
    private static final int NONE = PressbrakeLane.NONE;
    private static final Due DUE = new Due("ReasonsTest");

    public static void main(String[] args) {
        nearIsLessThan();
        halfTheDiameterIsRoundedDown();
        shortIsLessThan();
        halfTheOpeningIsRoundedDown();
        runEndsAtDoneBends();
        gaugeIsLongerThan();
        gaugeNeedsBothWings();
        punchIsAboveZero();
        punchIsAboveU();
        tableIsBelowByMoreThanTheDie();
        tableIsLessThan();
        everyPointCounts();
        firstReasonOfEachTwo();
        oneFace();
        oneBend();
        onlyOneOrderOfFewestTurns();
        fiveBends();
        shortestAndLongestBlanks();
        DUE.end();
    }

    /** Answers why by a tool that is told only for this. */
    private static void checkWhy(String what, int reason, PressbrakeLane lane, int done, int bend, int... tool) {
        int number = lane.tool(tool[0], tool[1], tool[2], tool[3], tool[4]);
        DUE.is(what, reason, () -> lane.why(0, number, done, bend));
    }

    private static void checkNear(String what, int near, int thickness, int at, int diameter) {
        PressbrakeLane behind = Lanes.withPart(thickness, "U", 100, 100);
        behind.hole(0, 1, at, diameter);
        DUE.is(what + ", to the bend ahead of the face", near, () -> behind.isNear(0, 0) ? 1 : 0);
        DUE.is(what + ", to the bend ahead of the face, told", near, () -> behind.told(0, 5));
        PressbrakeLane ahead = Lanes.withPart(thickness, "U", 100, 100);
        ahead.hole(0, 0, 100 - at, diameter);
        DUE.is(what + ", to the bend behind the face", near, () -> ahead.isNear(0, 0) ? 1 : 0);
        PressbrakeLane outer = Lanes.withPart(thickness, "U", 100, 100);
        outer.hole(0, 0, at, diameter);
        outer.hole(0, 1, 100 - at, diameter);
        DUE.is(what + ", to the ends without a bend", 0, () -> outer.told(0, 5));
    }

    private static void nearIsLessThan() {
        checkNear("17 is less than 8 and 10", 1, 4, 17, 20);
        checkNear("18 is not less than 8 and 10", 0, 4, 18, 20);
        checkNear("1 is less than 2 and 0", 1, 1, 1, 1);
        checkNear("2 is not less than 2 and 0", 0, 1, 2, 1);
    }

    private static void halfTheDiameterIsRoundedDown() {
        checkNear("half of 19 is 9: 10", 1, 1, 10, 19);
        checkNear("half of 19 is 9: 11", 0, 1, 11, 19);
        checkNear("half of 18 is 9: 10", 1, 1, 10, 18);
        checkNear("half of 18 is 9: 11", 0, 1, 11, 18);
        checkNear("half of 20 is 10: 11", 1, 1, 11, 20);
        checkNear("half of 3 is 1: 2", 1, 1, 2, 3);
        checkNear("half of 3 is 1: 3", 0, 1, 3, 3);
    }

    private static void shortIsLessThan() {
        PressbrakeLane right = Lanes.withPart(4, "U", 100, 34);
        checkWhy("34 of 30 and 4, to the right", CAN, right, 0, 0, 60, 0, 200, 10, 600);
        PressbrakeLane shortRight = Lanes.withPart(4, "U", 100, 33);
        checkWhy("33 of 30 and 4, to the right", SHORT, shortRight, 0, 0, 60, 0, 200, 10, 600);
        PressbrakeLane left = Lanes.withPart(4, "U", 34, 100);
        checkWhy("34 of 30 and 4, to the left", CAN, left, 0, 0, 60, 0, 200, 10, 600);
        PressbrakeLane shortLeft = Lanes.withPart(4, "U", 33, 100);
        checkWhy("33 of 30 and 4, to the left", SHORT, shortLeft, 0, 0, 60, 0, 200, 10, 600);
        PressbrakeLane both = Lanes.withPart(4, "U", 34, 34);
        checkWhy("34 of 30 and 4, both", CAN, both, 0, 0, 60, 0, 200, 10, 600);
        PressbrakeLane least = Lanes.withPart(1, "U", 10, 10);
        checkWhy("the shortest face by the smallest opening", CAN, least, 0, 0, 4, 0, 200, 10, 600);
    }

    private static void halfTheOpeningIsRoundedDown() {
        PressbrakeLane lane = Lanes.withPart(1, "U", 10, 10);
        checkWhy("half of 18 is 9, and 1", CAN, lane, 0, 0, 18, 0, 200, 10, 600);
        checkWhy("half of 19 is 9, and 1", CAN, lane, 0, 0, 19, 0, 200, 10, 600);
        checkWhy("half of 20 is 10, and 1", SHORT, lane, 0, 0, 20, 0, 200, 10, 600);
    }

    private static void runEndsAtDoneBends() {
        PressbrakeLane lane = Lanes.withPart(1, "UUUU", 20, 15, 25, 15, 20);
        checkWhy("15 to the left, ended by a bend that was done", SHORT, lane, 1, 1, 30, 0, 200, 10, 600);
        checkWhy("35 to the left, up to the end", CAN, lane, 0, 1, 30, 0, 200, 10, 600);
        checkWhy("15 to the right, ended by a bend that was done", SHORT, lane, 8, 2, 30, 0, 200, 10, 600);
        PressbrakeLane one = Lanes.withPart(1, "UDU", 12, 30, 30, 12);
        checkWhy("a bend further away does not end it", CAN, one, 1, 2, 22, 0, 200, 10, 600);
    }

    private static void gaugeIsLongerThan() {
        PressbrakeLane lane = Lanes.withPart(1, "U", 20, 20);
        checkWhy("20 of 20", CAN, lane, 0, 0, 4, 0, 200, 10, 20);
        PressbrakeLane one = Lanes.withPart(1, "U", 21, 21);
        checkWhy("21 of 20", GAUGE, one, 0, 0, 4, 0, 200, 10, 20);
        checkWhy("21 of 21", CAN, one, 0, 0, 4, 0, 200, 10, 21);
        PressbrakeLane longest = Lanes.withPart(1, "UUUUU", 200, 200, 200, 200, 200, 200);
        checkWhy("600 of 600", CAN, longest, 0, 2, 4, 0, 200, 10, 600);
        checkWhy("600 of 599", GAUGE, longest, 0, 2, 4, 0, 200, 10, 599);
        checkWhy("400 to the right of 599, as the bend 4 was done", CAN, longest, 16, 2, 4, 0, 200, 10, 599);
    }

    private static void gaugeNeedsBothWings() {
        PressbrakeLane left = Lanes.withPart(1, "U", 20, 21);
        checkWhy("the left one is not longer", CAN, left, 0, 0, 4, 0, 200, 10, 20);
        PressbrakeLane right = Lanes.withPart(1, "U", 21, 20);
        checkWhy("the right one is not longer", CAN, right, 0, 0, 4, 0, 200, 10, 20);
    }

    private static void punchIsAboveZero() {
        PressbrakeLane flat = Lanes.withPart(1, "U", 10, 10);
        checkWhy("v is 0, and 30 is above u", CAN, flat, 0, 0, 4, 30, 200, 10, 600);
        // To the right and back to u = 10, from there up: by 20 to v = 0, by 21 to v = 1.
        PressbrakeLane none = Lanes.withPart(1, "UDDD", 100, 40, 20, 30, 20);
        DUE.is("v is 0", 0, () -> none.point(0, 14, 0, true, 3, true));
        checkWhy("v is 0 again", CAN, none, 14, 0, 4, 30, 200, 10, 600);
        PressbrakeLane one = Lanes.withPart(1, "UDDD", 100, 40, 20, 30, 21);
        DUE.is("v is 1", 1, () -> one.point(0, 14, 0, true, 3, true));
        DUE.is("u is 10", 10, () -> one.point(0, 14, 0, true, 3, false));
        checkWhy("1 and 9 are not above 10", CAN, one, 14, 0, 4, 9, 200, 10, 600);
        checkWhy("1 and 10 are above 10", PUNCH, one, 14, 0, 4, 10, 200, 10, 600);
    }

    private static void punchIsAboveU() {
        PressbrakeLane right = Lanes.withPart(1, "UU", 100, 30, 20);
        checkWhy("20 and 10 are not above 30", CAN, right, 2, 0, 4, 10, 200, 10, 600);
        checkWhy("20 and 11 are above 30", PUNCH, right, 2, 0, 4, 11, 200, 10, 600);
        PressbrakeLane left = Lanes.withPart(1, "DD", 20, 30, 100);
        checkWhy("to the left, 20 and 10", CAN, left, 1, 1, 4, 10, 200, 10, 600);
        checkWhy("to the left, 20 and 11", PUNCH, left, 1, 1, 4, 11, 200, 10, 600);
        PressbrakeLane none = Lanes.withPart(1, "UU", 100, 30, 30);
        checkWhy("30 and no punch are not above 30", CAN, none, 2, 0, 4, 0, 200, 10, 600);
        checkWhy("30 and 1 are above 30", PUNCH, none, 2, 0, 4, 1, 200, 10, 600);
    }

    private static void tableIsBelowByMoreThanTheDie() {
        PressbrakeLane right = Lanes.withPart(1, "UD", 100, 30, 10);
        checkWhy("10 below is not more than 10", CAN, right, 2, 0, 4, 0, 10, 200, 600);
        PressbrakeLane more = Lanes.withPart(1, "UD", 100, 30, 11);
        checkWhy("11 below is more than 10", TABLE, more, 2, 0, 4, 0, 10, 200, 600);
        checkWhy("11 below is not more than 11", CAN, more, 2, 0, 4, 0, 11, 200, 600);
        PressbrakeLane left = Lanes.withPart(1, "UD", 11, 30, 100);
        checkWhy("to the left, 11 below", TABLE, left, 1, 1, 4, 0, 10, 200, 600);
        checkWhy("to the left, 11 of 11", CAN, left, 1, 1, 4, 0, 11, 200, 600);
        PressbrakeLane deep = Lanes.withPart(1, "UDU", 100, 30, 200, 10);
        checkWhy("200 below the deepest die", CAN, deep, 6, 0, 4, 0, 200, 200, 600);
        PressbrakeLane deeper = Lanes.withPart(1, "UDU", 100, 30, 100, 101);
        checkWhy("201 below the deepest die", TABLE, deeper, 2, 0, 4, 0, 200, 200, 600);
        PressbrakeLane above = Lanes.withPart(1, "UU", 100, 100, 50);
        checkWhy("50 above, not below", CAN, above, 2, 0, 4, 0, 10, 200, 600);
    }

    private static void tableIsLessThan() {
        PressbrakeLane right = Lanes.withPart(1, "UD", 100, 30, 50);
        checkWhy("30 is not less than 30", CAN, right, 2, 0, 4, 0, 10, 30, 600);
        checkWhy("30 is less than 31", TABLE, right, 2, 0, 4, 0, 10, 31, 600);
        PressbrakeLane left = Lanes.withPart(1, "DU", 50, 30, 100);
        checkWhy("to the left, 30 of 30", CAN, left, 1, 1, 4, 0, 10, 30, 600);
        checkWhy("to the left, 30 of 31", TABLE, left, 1, 1, 4, 0, 10, 31, 600);
        PressbrakeLane back = Lanes.withPart(1, "UDD", 100, 30, 50, 31);
        checkWhy("u below 0 is less than the smallest table", TABLE, back, 6, 0, 4, 0, 10, 10, 600);
    }

    /** The first, a middle and the last point, of either wing. */
    private static void everyPointCounts() {
        PressbrakeLane middle = Lanes.withPart(1, "UUD", 100, 30, 20, 40);
        checkWhy("only the middle point is hit", PUNCH, middle, 6, 0, 4, 11, 200, 10, 600);
        PressbrakeLane last = Lanes.withPart(1, "UUU", 100, 30, 15, 14);
        checkWhy("only the last point is hit", PUNCH, last, 6, 0, 4, 15, 200, 10, 600);
        checkWhy("none is hit", CAN, last, 6, 0, 4, 1, 200, 10, 600);
        PressbrakeLane left = Lanes.withPart(1, "DUU", 40, 20, 30, 100);
        checkWhy("only the middle point of the left wing is hit", PUNCH, left, 3, 2, 4, 11, 200, 10, 600);
    }

    private static void firstReasonOfEachTwo() {
        PressbrakeLane ends = Lanes.withPart(4, "U", 33, 33);
        checkWhy("SHORT and GAUGE", SHORT, ends, 0, 0, 60, 0, 200, 10, 20);
        checkWhy("GAUGE", GAUGE, ends, 0, 0, 4, 0, 200, 10, 20);
        PressbrakeLane up = Lanes.withPart(4, "UU", 100, 33, 60);
        checkWhy("SHORT and PUNCH", SHORT, up, 2, 0, 60, 30, 200, 10, 600);
        checkWhy("GAUGE and PUNCH", GAUGE, up, 2, 0, 4, 30, 200, 10, 32);
        checkWhy("PUNCH", PUNCH, up, 2, 0, 4, 30, 200, 10, 33);
        PressbrakeLane down = Lanes.withPart(4, "UD", 100, 33, 60);
        checkWhy("SHORT and TABLE", SHORT, down, 2, 0, 60, 0, 10, 200, 600);
        checkWhy("GAUGE and TABLE", GAUGE, down, 2, 0, 4, 0, 10, 200, 32);
        checkWhy("TABLE", TABLE, down, 2, 0, 4, 0, 10, 200, 33);
        PressbrakeLane both = Lanes.withPart(1, "DUU", 50, 30, 30, 40);
        checkWhy("PUNCH to the right, TABLE to the left", PUNCH, both, 5, 1, 4, 0, 20, 200, 600);
        PressbrakeLane turned = Lanes.withPart(1, "UUD", 40, 30, 30, 50);
        checkWhy("TABLE to the right, PUNCH to the left", PUNCH, turned, 5, 1, 4, 0, 20, 200, 600);
    }

    /** "A part of one face has no bends; its order has none, and no turns." */
    private static void oneFace() {
        PressbrakeLane lane = Lanes.withPart(4, "", 10);
        lane.tool(60, 30, 10, 200, 20);
        DUE.order("one face", lane, 1, 0);
        DUE.is("its blank is its face", 10, () -> lane.blank(0, 1));
        for (int bend : new int[] {-1, 0, 1, Integer.MIN_VALUE, Integer.MAX_VALUE}) {
            DUE.fails("why of bend " + bend, Due.INDEX, () -> lane.why(0, 0, 0, bend));
            DUE.fails("point of bend " + bend, Due.INDEX, () -> lane.point(0, 0, bend, true, 0, true));
            DUE.fails("point to the left of bend " + bend, Due.INDEX, () -> lane.point(0, 0, bend, false, 0, true));
        }
        lane.hole(0, 0, 1, 20);
        lane.hole(0, 0, 9, 20);
        DUE.is("no hole is near a bend", 0, () -> lane.told(0, 5));
        lane.batch(0, 1, 1);
        DUE.is("it is BENT by any tool", PressbrakeLane.BENT, () -> lane.work(0));
    }

    private static void oneBend() {
        PressbrakeLane lane = Lanes.withPart(4, "D", 33, 34);
        DUE.order("one bend, no turns", lane, 0, 0, 0);
        lane.tool(60, 0, 200, 10, 600);
        DUE.order("one bend that is SHORT", lane, 1, NONE);
        lane.batch(0, 1, 1);
        DUE.fails("it can't be BENT", Due.STATE, () -> lane.work(0));
        lane.batch(0, 0, 1);
        DUE.is("but by the other tool", PressbrakeLane.BENT, () -> lane.work(1));
    }

    /** Bend 2 must come first; behind it 0, 1 costs one turn and 1, 0 costs two. */
    private static void onlyOneOrderOfFewestTurns() {
        PressbrakeLane lane = Lanes.withPart(1, "DUD", 80, 50, 10, 20);
        lane.tool(4, 0, 30, 20, 600);
        DUE.is("bend 2 behind 0", PUNCH, () -> lane.why(0, 1, 1, 2));
        DUE.is("bend 2 behind 1", TABLE, () -> lane.why(0, 1, 2, 2));
        DUE.is("bend 2 behind both", TABLE, () -> lane.why(0, 1, 3, 2));
        DUE.is("bend 0 behind 2", CAN, () -> lane.why(0, 1, 4, 0));
        DUE.is("bend 1 behind 2", CAN, () -> lane.why(0, 1, 4, 1));
        DUE.order("2, 0, 1", lane, 1, 1, 2, 0, 1);
    }

    private static void fiveBends() {
        // Each wing to the left rolls up above the point that it goes to first, so the lowest order is possible.
        PressbrakeLane alike = Lanes.withPart(1, "DDDDD", 10, 20, 40, 80, 160, 200);
        DUE.order("all of one direction", alike, 0, 0, 0, 1, 2, 3, 4);
        PressbrakeLane mixed = Lanes.withPart(1, "UDUDU", 200, 20, 200, 20, 200, 20);
        DUE.is("two directions, one turn at least", 1, () -> mixed.flips(0, 0));
        DUE.is("the fifth place has a bend", 1, () -> mixed.ordered(0, 0, 4) >= 0 ? 1 : 0);
        DUE.is("the sixth place has none", NONE, () -> mixed.ordered(0, 0, 5));
    }

    private static void shortestAndLongestBlanks() {
        PressbrakeLane shortest = Lanes.withPart(4, "UUUUU", 10, 10, 10, 10, 10, 10);
        shortest.trial(0, 4, 9);
        DUE.is("60 less five times 9", 15, () -> shortest.blank(0, 0));
        PressbrakeLane longest = Lanes.withPart(1, "UUUUU", 200, 200, 200, 200, 200, 200);
        longest.trial(0, 1, 0);
        DUE.is("1200 less nothing", 1200, () -> longest.blank(0, 0));
    }
}
