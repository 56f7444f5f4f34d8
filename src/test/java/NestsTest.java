/** Promises 17 to 19: the lot and its nests. */
public final class NestsTest {
    private static final int NONE = PressbrakeLane.NONE;
    private static final Due DUE = new Due("NestsTest");

    public static void main(String[] args) {
        want();
        clear();
        emptyLot();
        oneRow();
        turnedBlanks();
        fallingSides();
        firstRow();
        rowsOfEarlierSheets();
        higherRows();
        newSheets();
        cutsOfOtherHeights();
        fit();
        blanksByTool();
        redrawnPieces();
        nestFails();
        DUE.end();
    }

    /** Parts without bends: pairs of a length and a width, and a tool. */
    private static PressbrakeLane withParts(int... sides) {
        PressbrakeLane lane = new PressbrakeLane();
        for (int i = 0; i + 1 < sides.length; i += 2) {
            lane.face(sides[i], PressbrakeLane.UP);
            lane.part(sides[i + 1], 1);
        }
        lane.tool(4, 0, 200, 10, 600);
        return lane;
    }

    private static void checkNest(String what, PressbrakeLane lane, int length, int width, long... due) {
        for (int i = 0; i < due.length; i++) {
            int asked = i;
            DUE.is(what + ", " + i, due[i], () -> lane.nest(0, length, width, asked));
        }
    }

    private static void want() {
        PressbrakeLane lane = withParts(50, 50, 60, 60);
        DUE.fails("want(0, 0)", Due.ARGUMENT, () -> lane.want(0, 0));
        DUE.fails("want(0, 41)", Due.ARGUMENT, () -> lane.want(0, 41));
        DUE.fails("no such part", Due.INDEX, () -> lane.want(2, 41));
        DUE.fails("part -1", Due.INDEX, () -> lane.want(-1, 1));
        DUE.is("one", 1, () -> lane.want(0, 1));
        DUE.is("of another", 39, () -> lane.want(1, 38));
        DUE.fails("two more", Due.STATE, () -> lane.want(0, 2));
        DUE.fails("41 more", Due.ARGUMENT, () -> lane.want(0, 41));
        DUE.is("one more", 40, () -> lane.want(0, 1));
        DUE.fails("the 41st", Due.STATE, () -> lane.want(1, 1));
        DUE.is("40 stay", 40, () -> lane.clear());
        DUE.is("40 at once", 40, () -> lane.want(0, 40));
    }

    private static void clear() {
        PressbrakeLane lane = withParts(50, 50, 60, 60);
        lane.want(0, 3);
        lane.want(1, 4);
        lane.want(0, 5);
        DUE.is("clear of 12", 12, () -> lane.clear());
        DUE.is("clear of none", 0, () -> lane.clear());
        checkNest("nothing is left", lane, 100, 100, 0, 0, 0, 0);
        lane.want(1, 1);
        checkNest("only the new one", lane, 100, 100, 1, 1, 240, 6400);
    }

    private static void emptyLot() {
        PressbrakeLane lane = withParts(50, 50);
        checkNest("an empty lot", lane, 50, 50, 0, 0, 0, 0);
    }

    private static void oneRow() {
        PressbrakeLane lane = withParts(100, 40);
        lane.want(0, 3);
        checkNest("three in a row", lane, 300, 50, 1, 1, 3 * 280 - 2 * 40, 300 * 50 - 3 * 4000);
        checkNest("two in a row", lane, 299, 80, 1, 2, 3 * 280 - 40, 299 * 80 - 3 * 4000);
        checkNest("two rows, two sheets", lane, 299, 79, 2, 2, 3 * 280 - 40, 2 * 299 * 79 - 3 * 4000);
    }

    private static void turnedBlanks() {
        PressbrakeLane lane = withParts(40, 100);
        lane.want(0, 2);
        checkNest("the width is the longer side", lane, 200, 50, 1, 1, 2 * 280 - 40, 200 * 50 - 8000);
    }

    private static void fallingSides() {
        PressbrakeLane lane = withParts(40, 20, 60, 30, 80, 40);
        lane.want(0, 3);
        lane.want(1, 2);
        lane.want(2, 1);
        // 80 x 40, then two 60 x 30 with a row each and a 40 x 20 behind it, the third one on a new sheet.
        checkNest("longer sides first", lane, 100, 100, 2, 4,
                240 + 2 * 180 + 3 * 120, 20000 - 3200 - 2 * 1800 - 3 * 800);
        PressbrakeLane alike = withParts(100, 30, 100, 40);
        alike.want(0, 1);
        alike.want(1, 1);
        checkNest("then shorter sides", alike, 200, 70, 1, 1, 260 + 280, 14000 - 7000);
        PressbrakeLane ordered = withParts(100, 40, 100, 30);
        ordered.want(0, 1);
        ordered.want(1, 1);
        checkNest("whichever part they are of", ordered, 200, 70, 1, 1, 260 + 280, 14000 - 7000);
    }

    private static void firstRow() {
        PressbrakeLane lane = withParts(100, 40, 90, 30, 50, 30);
        lane.want(0, 1);
        lane.want(1, 1);
        lane.want(2, 1);
        // Beside 90 x 30 the last one would have a cut in common; but the first row has room for it.
        checkNest("the first of two rows with room", lane, 150, 70, 1, 2, 280 + 240 + 160, 10500 - 4000 - 2700 - 1500);
    }

    private static void rowsOfEarlierSheets() {
        PressbrakeLane lane = withParts(90, 60, 80, 50, 70, 40, 20, 10, 15, 10);
        lane.want(0, 1);
        lane.want(1, 1);
        lane.want(2, 1);
        checkNest("the third is on the first sheet again", lane, 100, 100, 2, 3,
                300 + 260 + 220, 20000 - 5400 - 4000 - 2800);
        lane.want(3, 1);
        lane.want(4, 2);
        // 20 x 10 goes to the first sheet's second row and leaves 10 there, so one 15 x 10 has a row of its own.
        checkNest("rows by sheets", lane, 100, 100, 2, 4,
                300 + 260 + 220 + 60 + 2 * 50, 20000 - 5400 - 4000 - 2800 - 200 - 300);
    }

    private static void higherRows() {
        PressbrakeLane lane = withParts(100, 30, 60, 31, 40, 20);
        lane.want(0, 1);
        lane.want(1, 1);
        lane.want(2, 1);
        checkNest("31 does not go into a row of 30, 20 does", lane, 160, 61, 1, 2,
                260 + 182 + 120, 160 * 61 - 3000 - 1860 - 800);
        checkNest("a new row on a new sheet", lane, 160, 60, 2, 2,
                260 + 182 + 120, 2 * 160 * 60 - 3000 - 1860 - 800);
        PressbrakeLane same = withParts(100, 30, 60, 30);
        same.want(0, 1);
        same.want(1, 1);
        checkNest("30 goes into a row of 30, as much length is left", same, 160, 60, 1, 1,
                260 + 180 - 30, 160 * 60 - 3000 - 1800);
        checkNest("not so much length is left", same, 159, 60, 1, 2, 260 + 180, 159 * 60 - 3000 - 1800);
    }

    private static void newSheets() {
        PressbrakeLane lane = withParts(200, 300);
        lane.want(0, 40);
        checkNest("a sheet for each", lane, 300, 200, 40, 40, 40 * 1000, 0);
        checkNest("the largest sheets", lane, 3000, 1500, 1, 4, 40 * 1000 - 36 * 200, 4500000 - 40 * 60000);
    }

    private static void cutsOfOtherHeights() {
        PressbrakeLane lane = withParts(60, 20, 50, 30, 40, 20, 30, 20);
        lane.want(1, 1);
        lane.want(2, 1);
        lane.want(3, 1);
        // 50 x 30, then 40 x 20 beside it, then 30 x 20: one cut in common.
        checkNest("one neighbour is as high", lane, 120, 50, 1, 1,
                160 + 120 + 100 - 20, 6000 - 1500 - 800 - 600);
        lane.want(0, 1);
        // 60 x 20 has a row of its own, 50 x 30 another, 40 x 20 is behind the first one.
        checkNest("neighbours by rows", lane, 120, 50, 1, 2,
                160 + 160 + 120 + 100 - 20, 6000 - 1200 - 1500 - 800 - 600);
        PressbrakeLane apart = withParts(50, 20, 40, 10, 30, 20);
        apart.want(0, 1);
        apart.want(1, 1);
        apart.want(2, 1);
        checkNest("only neighbours count", apart, 120, 50, 1, 1, 140 + 100 + 100, 6000 - 1000 - 400 - 600);
    }

    private static void fit() {
        PressbrakeLane lane = withParts(100, 80);
        lane.want(0, 1);
        checkNest("it just fits", lane, 100, 80, 1, 1, 360, 0);
        checkNest("it is too long", lane, 99, 80, NONE, NONE, NONE, NONE);
        checkNest("it is too wide", lane, 100, 79, NONE, NONE, NONE, NONE);
        DUE.fails("a wrong argument all the same", Due.ARGUMENT, () -> lane.nest(0, 99, 80, 4));
        PressbrakeLane two = withParts(10, 10, 200, 10);
        two.want(0, 2);
        two.want(1, 1);
        checkNest("one of several is too long", two, 199, 50, NONE, NONE, NONE, NONE);
    }

    private static void blanksByTool() {
        PressbrakeLane lane = new PressbrakeLane();
        lane.face(60, 0);
        lane.face(60, 0);
        lane.part(50, 2);
        lane.tool(4, 0, 200, 10, 600);
        lane.tool(4, 0, 200, 10, 600);
        lane.trial(1, 2, 0);
        lane.want(0, 1);
        checkNest("116 by the tool 0", lane, 116, 50, 1, 1, 332, 0);
        DUE.is("120 by the tool 1", NONE, () -> lane.nest(1, 116, 50, 0));
        DUE.is("120 by the tool 1", 340, () -> lane.nest(1, 120, 50, 2));
        lane.hole(0, 0, 10, 20);
        checkNest("holes are no cuts", lane, 116, 50, 1, 1, 332, 0);
    }

    private static void redrawnPieces() {
        PressbrakeLane lane = withParts(100, 80);
        lane.want(0, 2);
        lane.face(60, 0);
        lane.redraw(0, 50, 1);
        checkNest("pieces are of the new drawing", lane, 120, 50, 1, 1, 440 - 50, 0);
        DUE.is("the lot stays", 2, () -> lane.clear());
    }

    private static void nestFails() {
        PressbrakeLane lane = withParts(10, 10);
        lane.want(0, 1);
        DUE.fails("length 49", Due.ARGUMENT, () -> lane.nest(0, 49, 49, 0));
        DUE.fails("length 3001", Due.ARGUMENT, () -> lane.nest(0, 3001, 100, 0));
        DUE.fails("width 49", Due.ARGUMENT, () -> lane.nest(0, 50, 49, 0));
        DUE.fails("width 1501", Due.ARGUMENT, () -> lane.nest(0, 3000, 1501, 0));
        DUE.fails("width above the length", Due.ARGUMENT, () -> lane.nest(0, 50, 51, 0));
        DUE.fails("what -1", Due.ARGUMENT, () -> lane.nest(0, 50, 50, -1));
        DUE.fails("what 4", Due.ARGUMENT, () -> lane.nest(0, 50, 50, 4));
        DUE.fails("no such tool", Due.INDEX, () -> lane.nest(1, 49, 49, 4));
        DUE.fails("tool -1", Due.INDEX, () -> lane.nest(-1, 50, 50, 0));
        checkNest("the smallest sheet", lane, 50, 50, 1, 1, 40, 2400);
        checkNest("the largest sheet", lane, 3000, 1500, 1, 1, 40, 4499900);
    }
}
