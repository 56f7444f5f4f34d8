/** Promise 19 at its edges: rows and sheets that are just filled, and pieces that just fit. */
public final class SheetsTest {
    private static final int NONE = PressbrakeLane.NONE;
    private static final Due DUE = new Due("SheetsTest");

    public static void main(String[] args) {
        nothing();
        pieceAsLongAsTheSheet();
        pieceAsWideAsTheSheet();
        longerSideLiesAlong();
        squarePieces();
        rowJustFilled();
        rowJustFilledByTwoKinds();
        rowAsHigh();
        sheetJustFilledByRows();
        sheetJustFilledByOtherRows();
        fortySheets();
        fortyPiecesInARow();
        fortyRows();
        largestAreas();
        blanksAtTheEdge();
        firstRowOfTheFirstSheet();
        newRowOfTheFirstSheet();
        cutsOfNeighbours();
        oneIsEnoughForNone();
        elderNestsLeaveNothing();
        DUE.end();
    }

    /** Parts of one face: pairs of a length and a width. */
    private static PressbrakeLane withParts(int... sides) {
        PressbrakeLane lane = new PressbrakeLane();
        for (int i = 0; i + 1 < sides.length; i += 2) {
            Lanes.draw(lane, "", sides[i]);
            lane.part(sides[i + 1], 1);
        }
        Lanes.easyTool(lane);
        return lane;
    }

    /** As withParts, with one piece of each part in the lot. */
    private static PressbrakeLane withPieces(int... sides) {
        PressbrakeLane lane = withParts(sides);
        for (int i = 0; i < sides.length / 2; i++) {
            lane.want(i, 1);
        }
        return lane;
    }

    private static PressbrakeLane withMany(int many, int length, int width) {
        PressbrakeLane lane = withParts(length, width);
        lane.want(0, many);
        return lane;
    }

    /** The sheets, the rows, the cuts and the area that are due. */
    private static void check(String what, PressbrakeLane lane, int length, int width, long... due) {
        for (int i = 0; i < 4; i++) {
            int asked = i;
            DUE.is(what + ", " + i, due[due.length > 1 ? i : 0], () -> lane.nest(0, length, width, asked));
        }
    }

    private static void nothing() {
        PressbrakeLane lane = withParts(100, 50);
        check("an empty lot on the smallest sheet", lane, 50, 50, 0, 0, 0, 0);
        check("an empty lot on the largest sheet", lane, 3000, 1500, 0, 0, 0, 0);
    }

    private static void pieceAsLongAsTheSheet() {
        PressbrakeLane lane = withPieces(100, 60);
        check("101 long", lane, 101, 60, 1, 1, 320, 60);
        check("just as long", lane, 100, 60, 1, 1, 320, 0);
        check("one too long", lane, 99, 60, NONE);
    }

    private static void pieceAsWideAsTheSheet() {
        PressbrakeLane lane = withPieces(100, 60);
        check("61 wide", lane, 100, 61, 1, 1, 320, 100);
        check("just as wide", lane, 100, 60, 1, 1, 320, 0);
        check("one too wide", lane, 100, 59, NONE);
        PressbrakeLane square = withPieces(60, 60);
        check("just as long and wide", square, 60, 60, 1, 1, 240, 0);
        check("one too wide", square, 60, 59, NONE);
        check("one too long and too wide", square, 59, 59, NONE);
    }

    private static void longerSideLiesAlong() {
        PressbrakeLane lane = withPieces(60, 100);
        check("the width is the longer side", lane, 100, 60, 1, 1, 320, 0);
        check("it can't be turned to fit", lane, 99, 99, NONE);
        PressbrakeLane even = withPieces(60, 61, 61, 60);
        check("by one longer, of either side", even, 122, 60, 1, 1, 2 * 242 - 60, 0);
        check("not in one row", even, 121, 60, 2, 2, 2 * 242, 2 * 121 * 60 - 2 * 3660);
    }

    private static void squarePieces() {
        check("four squares", withMany(4, 50, 50), 100, 100, 1, 2, 4 * 200 - 2 * 50, 0);
    }

    private static void rowJustFilled() {
        PressbrakeLane lane = withMany(3, 50, 20);
        check("three just fill the row", lane, 150, 50, 1, 1, 3 * 140 - 2 * 20, 150 * 50 - 3000);
        check("one is left of the length", lane, 151, 50, 1, 1, 3 * 140 - 2 * 20, 151 * 50 - 3000);
        check("one is wanting for the third", lane, 149, 50, 1, 2, 3 * 140 - 20, 149 * 50 - 3000);
        check("each row is just filled", lane, 50, 50, 2, 3, 3 * 140, 2 * 2500 - 3000);
    }

    private static void rowJustFilledByTwoKinds() {
        PressbrakeLane lane = withPieces(60, 20, 40, 20);
        check("60 and 40 of 100", lane, 100, 50, 1, 1, 160 + 120 - 20, 5000 - 2000);
        check("60 and 40 of 99", lane, 99, 50, 1, 2, 160 + 120, 4950 - 2000);
        PressbrakeLane third = withPieces(60, 20, 40, 20, 10, 10);
        check("a full row takes no third", third, 100, 50, 1, 2, 160 + 120 - 20 + 40, 5000 - 2100);
        check("10 are left for it", third, 110, 50, 1, 1, 160 + 120 - 20 + 40, 5500 - 2100);
        check("9 are left for it", third, 109, 50, 1, 2, 160 + 120 - 20 + 40, 5450 - 2100);
    }

    private static void rowAsHigh() {
        check("just as high", withPieces(60, 20, 40, 20), 100, 50, 1, 1, 160 + 120 - 20, 5000 - 2000);
        check("higher by one", withPieces(60, 21, 40, 20), 100, 50, 1, 1, 162 + 120, 5000 - 2060);
        check("lower by one", withPieces(60, 20, 40, 21), 100, 50, 1, 2, 160 + 122, 5000 - 2040);
    }

    private static void sheetJustFilledByRows() {
        PressbrakeLane lane = withMany(3, 60, 25);
        check("three rows just fill the sheet", lane, 75, 75, 1, 3, 3 * 170, 75 * 75 - 4500);
        check("one is left of the width", lane, 76, 76, 1, 3, 3 * 170, 76 * 76 - 4500);
        check("one is wanting for the third", lane, 75, 74, 2, 3, 3 * 170, 2 * 75 * 74 - 4500);
    }

    private static void sheetJustFilledByOtherRows() {
        PressbrakeLane lane = withPieces(90, 40, 80, 30, 70, 20);
        check("40, 30 and 20 of 90", lane, 90, 90, 1, 3, 260 + 220 + 180, 8100 - 3600 - 2400 - 1400);
        check("40, 30 and 20 of 89", lane, 90, 89, 2, 3, 260 + 220 + 180, 2 * 90 * 89 - 3600 - 2400 - 1400);
        check("40 and 20 of 60, and 30", lane, 90, 60, 2, 3, 260 + 220 + 180, 2 * 90 * 60 - 3600 - 2400 - 1400);
        check("40 and 20 of 59 don't go", lane, 90, 59, 2, 3, 260 + 220 + 180, 2 * 90 * 59 - 3600 - 2400 - 1400);
        check("30 and 20 of 50", lane, 90, 50, 2, 3, 260 + 220 + 180, 2 * 90 * 50 - 3600 - 2400 - 1400);
        PressbrakeLane apart = withPieces(90, 40, 80, 35, 70, 30);
        check("no two of 64 go together", apart, 90, 64, 3, 3, 260 + 230 + 200, 3 * 90 * 64 - 3600 - 2800 - 2100);
        check("35 and 30 of 65", apart, 90, 65, 2, 3, 260 + 230 + 200, 2 * 90 * 65 - 3600 - 2800 - 2100);
    }

    private static void fortySheets() {
        PressbrakeLane lane = withMany(40, 200, 150);
        check("a sheet for each", lane, 200, 150, 40, 40, 40 * 700, 0);
        check("too small for two", lane, 399, 299, 40, 40, 40 * 700, 40L * 399 * 299 - 40 * 30000);
    }

    private static void fortyPiecesInARow() {
        PressbrakeLane lane = withMany(40, 75, 10);
        check("forty fill a row", lane, 3000, 50, 1, 1, 40 * 170 - 39 * 10, 3000 * 50 - 40 * 750);
        check("39 and one", lane, 2999, 50, 1, 2, 40 * 170 - 38 * 10, 2999 * 50 - 40 * 750);
    }

    private static void fortyRows() {
        PressbrakeLane lane = withMany(40, 200, 20);
        check("forty rows fill a sheet of 800", lane, 800, 800, 1, 10, 40 * 440 - 30 * 20, 800 * 800 - 40 * 4000);
        Lanes.draw(lane, "UUUU", 200, 200, 200, 200, 200);
        lane.clear();
        lane.part(30, 1);
        lane.want(1, 40);
        check("forty rows of 992 x 30", lane, 1200, 1200, 1, 40, 40 * 2044, 1200 * 1200 - 40 * 29760);
        check("one is wanting for the last", lane, 1200, 1199, 2, 40, 40 * 2044, 2L * 1200 * 1199 - 40 * 29760);
    }

    private static void largestAreas() {
        PressbrakeLane lane = new PressbrakeLane();
        Lanes.easyTool(lane);
        lane.trial(0, 1, 0);
        Lanes.draw(lane, "UUUUU", 200, 200, 200, 200, 200, 200);
        lane.part(300, 1);
        lane.want(0, 40);
        check("1200 x 300, each just a sheet", lane, 1200, 300, 40, 40, 40 * 3000, 0);
        check("two in a row, five rows", lane, 3000, 1500, 4, 20, 40 * 3000 - 20 * 300, 4 * 4500000 - 40 * 360000);
        check("a sheet for each, nearly twice as large", lane, 2399, 599, 40, 40, 40 * 3000,
                40L * 2399 * 599 - 40 * 360000);
    }

    /** The blank of 60 and 60, less the deduction, is as long as the sheet, or longer. */
    private static void blanksAtTheEdge() {
        PressbrakeLane lane = Lanes.withPart(1, "U", 60, 60);
        lane.want(0, 1);
        check("118 of 118", lane, 118, 100, 1, 1, 436, 0);
        check("118 of 117", lane, 117, 100, NONE);
        lane.trial(0, 1, 3);
        check("117 of 117", lane, 117, 100, 1, 1, 434, 0);
        lane.trial(0, 1, 0);
        check("120 of 119", lane, 119, 100, NONE);
    }

    private static void firstRowOfTheFirstSheet() {
        PressbrakeLane lane = withPieces(100, 40, 95, 40, 20, 10);
        check("20 goes into the first row that has so much left", lane, 120, 80, 1, 2,
                280 + 270 + 60, 9600 - 4000 - 3800 - 200);
        check("none has so much left", lane, 114, 90, 1, 3, 280 + 270 + 60, 114 * 90 - 4000 - 3800 - 200);
        check("the second one has so much left", lane, 115, 80, 1, 2, 280 + 270 + 60, 115 * 80 - 4000 - 3800 - 200);
        check("the row of another sheet has so much left", lane, 115, 50, 2, 2,
                280 + 270 + 60, 2 * 115 * 50 - 4000 - 3800 - 200);
        check("a row of another sheet comes ahead of a new row", lane, 115, 60, 2, 2,
                280 + 270 + 60, 2 * 115 * 60 - 4000 - 3800 - 200);
        check("none has so much left, the first sheet has 10", lane, 114, 50, 2, 3,
                280 + 270 + 60, 2 * 114 * 50 - 4000 - 3800 - 200);
        check("nor has the first sheet", lane, 114, 54, 2, 3, 280 + 270 + 60, 2 * 114 * 54 - 4000 - 3800 - 200);
        // 20 x 10 just fills the first row, two of 15 x 10 just fill the second; the other way they would not fit.
        PressbrakeLane filled = withPieces(100, 40, 90, 40, 20, 10, 15, 10);
        filled.want(3, 1);
        check("two rows are just filled", filled, 120, 89, 1, 2,
                280 + 260 + 60 + 2 * 50 - 10, 120 * 89 - 4000 - 3600 - 200 - 300);
    }

    private static void newRowOfTheFirstSheet() {
        PressbrakeLane lane = withPieces(100, 50, 90, 41, 80, 10);
        check("10 beside 50 of 60", lane, 100, 60, 2, 3, 300 + 262 + 180, 12000 - 5000 - 3690 - 800);
        check("10 does not go beside 50 of 59, but beside 41", lane, 100, 59, 2, 3,
                300 + 262 + 180, 11800 - 5000 - 3690 - 800);
        check("10 goes beside neither, of 50", lane, 100, 50, 3, 3, 300 + 262 + 180, 15000 - 5000 - 3690 - 800);
    }

    private static void cutsOfNeighbours() {
        check("one has no neighbour", withMany(1, 50, 20), 100, 50, 1, 1, 140, 5000 - 1000);
        check("two as high", withPieces(50, 20, 40, 20), 90, 50, 1, 1, 140 + 120 - 20, 4500 - 1800);
        check("two of other heights", withPieces(50, 20, 40, 19), 90, 50, 1, 1, 140 + 118, 4500 - 1760);
        check("as high in other rows", withPieces(50, 20, 40, 20), 89, 50, 1, 2, 140 + 120, 89 * 50 - 1800);
        // 50 x 20, 45 x 10 and 40 x 20: the two of 20 are no neighbours.
        check("as high, but one is between", withPieces(50, 20, 45, 10, 40, 20), 135, 50, 1, 1,
                140 + 110 + 120, 135 * 50 - 1000 - 450 - 800);
    }

    private static void oneIsEnoughForNone() {
        PressbrakeLane lane = withParts(50, 20, 200, 20, 60, 60);
        lane.want(0, 38);
        lane.want(1, 1);
        check("199 are too short for one of them", lane, 199, 100, NONE);
        DUE.is("200 are enough", 1, () -> lane.nest(0, 200, 100, 0) > 0 ? 1 : 0);
        lane.want(2, 1);
        check("59 are too narrow for one of them", lane, 200, 59, NONE);
        DUE.is("60 are enough", 1, () -> lane.nest(0, 200, 60, 0) > 0 ? 1 : 0);
        DUE.is("NONE changes nothing in the lot", 40, () -> lane.clear());
    }

    private static void elderNestsLeaveNothing() {
        PressbrakeLane lane = withPieces(200, 90, 60, 40, 50, 20);
        check("three kinds", lane, 300, 300, 1, 2, 580 + 200 + 140, 90000 - 18000 - 2400 - 1000);
        lane.clear();
        check("no kinds", lane, 60, 60, 0, 0, 0, 0);
        lane.want(2, 1);
        check("one kind, on a sheet that is too small for the others", lane, 50, 50, 1, 1, 140, 2500 - 1000);
        lane.want(1, 1);
        check("two kinds", lane, 60, 60, 1, 2, 200 + 140, 3600 - 2400 - 1000);
    }
}
