/** What becomes of CUT, BENT and COATED batches when a part is redrawn: one test for each word of the sentence. */
public final class RedrawsTest {
    private static final int CUT = PressbrakeLane.CUT;
    private static final int BENT = PressbrakeLane.BENT;
    private static final int COATED = PressbrakeLane.COATED;
    private static final int SCRAP = PressbrakeLane.SCRAP;
    private static final Due DUE = new Due("RedrawsTest");

    public static void main(String[] args) {
        theSame();
        theSameButForTheFirstDirection();
        widthByOne();
        thicknessByOne();
        blankByOne();
        blankByItsOwnTool();
        blankByTheNewTrial();
        blankAsItWasCut();
        otherBendsOfTheSameBlank();
        otherFacesOfTheSameBlank();
        moreAndFewerFaces();
        eachFaceAndEachBend();
        oneElderHole();
        holesOfAnElderRevision();
        scrapIsScrapForGood();
        scrapHindersNoHole();
        piecesThatAreScrap();
        noPiecesThatAreScrap();
        otherPartsStay();
        fiftyPiecesOfTwentyBatches();
        workBehindARedraw();
        kitsBehindARedraw();
        redrawsWithoutBatches();
        DUE.end();
    }

    /** Faces of 50, 40 and 30, bent UP and DOWN, thickness 2, and a batch of 5 that is worked so often. */
    private static PressbrakeLane withBatch(int works) {
        PressbrakeLane lane = Lanes.withPart(2, "UD", 50, 40, 30);
        Lanes.batch(lane, 0, 0, 5, works);
        return lane;
    }

    /** Redraws to what is on the pad; a batch of revision 0 goes on or is SCRAP. */
    private static void checkGoesOn(String what, PressbrakeLane lane, int works, boolean goesOn,
            int width, int thickness) {
        DUE.is(what + ", pieces that are SCRAP", goesOn ? 0 : 5, () -> lane.redraw(0, width, thickness));
        DUE.batch(what, lane, 0, goesOn ? works : SCRAP, 5, goesOn ? 1 : 0, 112);
        DUE.is(what + ", the part itself", 1, () -> lane.told(0, 0));
    }

    private static void theSame() {
        for (int works = CUT; works <= COATED; works++) {
            PressbrakeLane lane = withBatch(works);
            Lanes.draw(lane, "UD", 50, 40, 30);
            checkGoesOn("the same, worked " + works, lane, works, true, 100, 2);
        }
    }

    private static void theSameButForTheFirstDirection() {
        for (int works = CUT; works <= COATED; works++) {
            PressbrakeLane lane = withBatch(works);
            lane.face(50, PressbrakeLane.DOWN);
            lane.face(40, PressbrakeLane.UP);
            lane.face(30, PressbrakeLane.DOWN);
            checkGoesOn("for the first face the direction does not matter, " + works, lane, works, true, 100, 2);
        }
    }

    private static void widthByOne() {
        for (int works = CUT; works <= COATED; works++) {
            for (int width : new int[] {99, 101, 10, 300}) {
                PressbrakeLane lane = withBatch(works);
                Lanes.draw(lane, "UD", 50, 40, 30);
                checkGoesOn("width " + width + ", worked " + works, lane, works, false, width, 2);
            }
        }
    }

    private static void thicknessByOne() {
        for (int works = CUT; works <= COATED; works++) {
            for (int thickness : new int[] {1, 3, 4}) {
                PressbrakeLane lane = withBatch(works);
                // The blanks are as long as they were.
                lane.trial(0, thickness, 4);
                Lanes.draw(lane, "UD", 50, 40, 30);
                checkGoesOn("thickness " + thickness + ", worked " + works, lane, works, false, 100, thickness);
            }
        }
    }

    private static void blankByOne() {
        PressbrakeLane longer = withBatch(0);
        Lanes.draw(longer, "UD", 50, 41, 30);
        checkGoesOn("the blank is one longer", longer, CUT, false, 100, 2);
        PressbrakeLane shorter = withBatch(0);
        Lanes.draw(shorter, "UD", 50, 39, 30);
        checkGoesOn("the blank is one shorter", shorter, CUT, false, 100, 2);
        PressbrakeLane even = withBatch(0);
        Lanes.draw(even, "UD", 49, 41, 30);
        checkGoesOn("one face is longer, one is shorter", even, CUT, true, 100, 2);
    }

    private static void blankByItsOwnTool() {
        PressbrakeLane lane = withBatch(0);
        Lanes.easyTool(lane);
        lane.trial(1, 2, 3);
        lane.batch(0, 1, 7);
        DUE.batch("by the tool 1", lane, 1, CUT, 7, 0, 114);
        // By the tool 0 it is 112 long, as before; by the tool 1 it was 114 and is 113 now.
        Lanes.draw(lane, "U", 56, 60);
        DUE.is("the one by the tool 1 is SCRAP", 7, () -> lane.redraw(0, 100, 2));
        DUE.batch("by the tool 0", lane, 0, CUT, 5, 1, 112);
        DUE.batch("by the tool 1", lane, 1, SCRAP, 7, 0, 114);
        Lanes.draw(lane, "", 113);
        DUE.is("nor is it CUT again", 5, () -> lane.redraw(0, 100, 2));
    }

    private static void blankByTheNewTrial() {
        PressbrakeLane told = withBatch(0);
        told.trial(0, 2, 5);
        Lanes.draw(told, "UD", 50, 40, 30);
        checkGoesOn("the same drawing is 110 by the new trial", told, CUT, false, 100, 2);
        PressbrakeLane made = withBatch(0);
        made.trial(0, 2, 5);
        Lanes.draw(made, "UD", 50, 42, 30);
        checkGoesOn("another one is 112 by the new trial", made, CUT, true, 100, 2);
        for (int works = BENT; works <= COATED; works++) {
            PressbrakeLane bent = withBatch(works);
            bent.trial(0, 2, 9);
            Lanes.draw(bent, "UD", 50, 40, 30);
            checkGoesOn("a new trial is no matter once it is bent, " + works, bent, works, true, 100, 2);
        }
    }

    /** Not as long as the elder drawing would have them: each redraw looks at the cut blanks themselves. */
    private static void blankAsItWasCut() {
        PressbrakeLane lane = withBatch(0);
        lane.trial(0, 2, 0);
        Lanes.draw(lane, "UD", 42, 40, 30);
        DUE.is("112 by the new trial", 0, () -> lane.redraw(0, 100, 2));
        lane.trial(0, 2, 4);
        DUE.is("the part's blank is 104 now", 104, () -> lane.blank(0, 0));
        Lanes.draw(lane, "UD", 42, 40, 30);
        DUE.is("the drawing is the same, the blank is not", 5, () -> lane.redraw(0, 100, 2));
        DUE.batch("it was cut at 112", lane, 0, SCRAP, 5, 1, 112);
    }

    private static void otherBendsOfTheSameBlank() {
        for (int works = CUT; works <= COATED; works++) {
            PressbrakeLane lane = withBatch(works);
            Lanes.draw(lane, "UU", 50, 40, 30);
            checkGoesOn("another bend, worked " + works, lane, works, works == CUT, 100, 2);
        }
    }

    private static void otherFacesOfTheSameBlank() {
        for (int works = CUT; works <= COATED; works++) {
            PressbrakeLane lane = withBatch(works);
            Lanes.draw(lane, "UD", 30, 40, 50);
            checkGoesOn("faces in another order, worked " + works, lane, works, works == CUT, 100, 2);
        }
    }

    private static void moreAndFewerFaces() {
        for (int works = CUT; works <= COATED; works++) {
            PressbrakeLane more = withBatch(works);
            Lanes.draw(more, "UDU", 50, 40, 24, 10);
            checkGoesOn("one face more, blanks as long, worked " + works, more, works, works == CUT, 100, 2);
            PressbrakeLane fewer = withBatch(works);
            Lanes.draw(fewer, "U", 50, 66);
            checkGoesOn("one face fewer, blanks as long, worked " + works, fewer, works, works == CUT, 100, 2);
            PressbrakeLane behind = withBatch(works);
            Lanes.draw(behind, "UDU", 50, 40, 30, 10);
            checkGoesOn("one face behind the same ones, worked " + works, behind, works, false, 100, 2);
            PressbrakeLane without = withBatch(works);
            Lanes.draw(without, "U", 50, 40);
            checkGoesOn("without the last face, worked " + works, without, works, false, 100, 2);
        }
    }

    /** Of six faces each length and each of the five bends is looked at. */
    private static void eachFaceAndEachBend() {
        for (int i = 0; i < 6; i++) {
            int[] lengths = {10, 20, 30, 40, 50, 60};
            lengths[i]++;
            checkSixFaces("face " + i, 5, "UDUUD", lengths);
        }
        for (int i = 0; i < 5; i++) {
            char[] bends = "UDUUD".toCharArray();
            bends[i] = bends[i] == 'U' ? 'D' : 'U';
            checkSixFaces("bend " + i, 5, new String(bends), 10, 20, 30, 40, 50, 60);
        }
        checkSixFaces("the same", 0, "UDUUD", 10, 20, 30, 40, 50, 60);
    }

    private static void checkSixFaces(String what, int scrap, String bends, int... lengths) {
        PressbrakeLane lane = Lanes.withPart(2, "UDUUD", 10, 20, 30, 40, 50, 60);
        DUE.is(what + ", it can be BENT", BENT, () -> lane.work(lane.batch(0, 0, 5)));
        Lanes.draw(lane, bends, lengths);
        DUE.is(what + ", BENT", scrap, () -> lane.redraw(0, 100, 2));
    }

    private static void oneElderHole() {
        for (int works = CUT; works <= COATED; works++) {
            PressbrakeLane lane = Lanes.withPart(2, "UD", 50, 40, 30);
            lane.hole(0, 0, 1, 1);
            Lanes.batch(lane, 0, 0, 5, works);
            Lanes.draw(lane, "UD", 50, 40, 30);
            checkGoesOn("the elder drawing had a hole, worked " + works, lane, works, false, 100, 2);
        }
    }

    private static void holesOfAnElderRevision() {
        PressbrakeLane lane = Lanes.withPart(2, "UD", 50, 40, 30);
        lane.hole(0, 0, 1, 1);
        Lanes.draw(lane, "UD", 50, 40, 30);
        lane.redraw(0, 100, 2);
        lane.batch(0, 0, 5);
        Lanes.draw(lane, "UD", 50, 40, 30);
        DUE.is("it had holes two revisions ago", 0, () -> lane.redraw(0, 100, 2));
        DUE.batch("it goes on", lane, 0, CUT, 5, 2, 112);
    }

    private static void scrapIsScrapForGood() {
        for (int works = CUT; works <= COATED; works++) {
            PressbrakeLane lane = withBatch(works);
            Lanes.draw(lane, "UD", 50, 40, 31);
            DUE.is("it is SCRAP", 5, () -> lane.redraw(0, 100, 2));
            Lanes.draw(lane, "UD", 50, 40, 30);
            DUE.is("it does not count again", 0, () -> lane.redraw(0, 100, 2));
            DUE.batch("the first drawing again does not mend it", lane, 0, SCRAP, 5, 0, 112);
            DUE.fails("nor is it worked", Due.STATE, () -> lane.work(0));
        }
    }

    private static void scrapHindersNoHole() {
        for (int works = CUT; works <= COATED; works++) {
            PressbrakeLane lane = withBatch(works);
            DUE.fails("a batch, worked " + works, Due.STATE, () -> lane.hole(0, 0, 5, 5));
            Lanes.draw(lane, "UD", 50, 40, 31);
            lane.redraw(0, 100, 2);
            DUE.is("a SCRAP one, worked " + works, 0, () -> lane.hole(0, 0, 5, 5));
            Lanes.batch(lane, 0, 0, 1, works);
            DUE.fails("a SCRAP one and a new one", Due.STATE, () -> lane.hole(0, 0, 5, 5));
        }
        PressbrakeLane taken = withBatch(2);
        taken.take(1, 5);
        DUE.fails("a batch without pieces", Due.STATE, () -> taken.hole(0, 0, 5, 5));
    }

    private static void piecesThatAreScrap() {
        PressbrakeLane lane = withBatch(2);
        Lanes.batch(lane, 0, 0, 7, 1);
        Lanes.batch(lane, 0, 0, 11, 0);
        lane.take(1, 4);
        Lanes.draw(lane, "UD", 50, 40, 31);
        DUE.is("1 that was COATED, 7 BENT, 11 CUT", 19, () -> lane.redraw(0, 100, 2));
        DUE.batch("COATED", lane, 0, SCRAP, 1, 0, 112);
        DUE.batch("BENT", lane, 1, SCRAP, 7, 0, 112);
        DUE.batch("CUT", lane, 2, SCRAP, 11, 0, 112);
    }

    private static void noPiecesThatAreScrap() {
        PressbrakeLane lane = withBatch(2);
        lane.take(1, 5);
        Lanes.draw(lane, "UD", 50, 40, 30);
        DUE.is("the same drawing", 0, () -> lane.redraw(0, 100, 2));
        DUE.batch("it goes on without pieces", lane, 0, COATED, 0, 1, 112);
        Lanes.draw(lane, "UD", 50, 40, 31);
        DUE.is("another drawing", 0, () -> lane.redraw(0, 100, 2));
        DUE.batch("it is SCRAP without pieces", lane, 0, SCRAP, 0, 1, 112);
    }

    private static void otherPartsStay() {
        PressbrakeLane lane = withBatch(0);
        Lanes.draw(lane, "UD", 50, 40, 30);
        lane.part(100, 2);
        lane.batch(1, 0, 7);
        Lanes.batch(lane, 1, 0, 8, 1);
        Lanes.draw(lane, "", 90);
        DUE.is("only those of the part", 5, () -> lane.redraw(0, 60, 1));
        DUE.batch("CUT of another part", lane, 1, CUT, 7, 0, 112);
        DUE.batch("BENT of another part", lane, 2, BENT, 8, 0, 112);
        Lanes.draw(lane, "UD", 50, 40, 30);
        DUE.is("none of the other part", 0, () -> lane.redraw(1, 100, 2));
        DUE.batch("SCRAP of the first part", lane, 0, SCRAP, 5, 0, 112);
        DUE.batch("CUT of the other part", lane, 1, CUT, 7, 1, 112);
    }

    private static void fiftyPiecesOfTwentyBatches() {
        PressbrakeLane lane = Lanes.withPart(2, "UD", 50, 40, 30);
        for (int i = 0; i < 20; i++) {
            Lanes.batch(lane, 0, 0, 50, i % 3);
        }
        Lanes.draw(lane, "UD", 50, 40, 30);
        DUE.is("all go on", 0, () -> lane.redraw(0, 100, 2));
        DUE.batch("the last one", lane, 19, BENT, 50, 1, 112);
        Lanes.draw(lane, "UD", 50, 40, 31);
        DUE.is("all are SCRAP", 1000, () -> lane.redraw(0, 100, 2));
        DUE.batch("the last one", lane, 19, SCRAP, 50, 1, 112);
    }

    /** A CUT batch that goes on is bent as the new drawing says; one that is BENT needs no order. */
    private static void workBehindARedraw() {
        PressbrakeLane cut = Lanes.withPart(1, "U", 50, 60);
        cut.tool(22, 0, 200, 10, 600);
        cut.batch(0, 1, 5);
        Lanes.draw(cut, "U", 99, 11);
        DUE.is("blanks as long", 0, () -> cut.redraw(0, 100, 1));
        DUE.fails("11 is less than 11 and 1", Due.STATE, () -> cut.work(0));
        DUE.batch("it stays CUT", cut, 0, CUT, 5, 1, 108);
        Lanes.draw(cut, "U", 98, 12);
        DUE.is("blanks as long", 0, () -> cut.redraw(0, 100, 1));
        DUE.is("12 is not", BENT, () -> cut.work(0));
    }

    private static void kitsBehindARedraw() {
        PressbrakeLane lane = withBatch(2);
        Lanes.batch(lane, 0, 0, 6, 0);
        DUE.is("COATED ones", 5, () -> lane.kits(1));
        Lanes.draw(lane, "UU", 50, 40, 30);
        DUE.is("COATED ones are SCRAP, CUT ones go on", 5, () -> lane.redraw(0, 100, 2));
        DUE.is("no kits", 0, () -> lane.kits(1));
        DUE.fails("none is taken", Due.STATE, () -> lane.take(1, 1));
        lane.work(1);
        lane.work(1);
        DUE.is("of the new drawing alone", 6, () -> lane.kits(1));
        DUE.is("all of them", 1, () -> lane.take(1, 6));
        DUE.batch("SCRAP is not taken", lane, 0, SCRAP, 5, 0, 112);
    }

    private static void redrawsWithoutBatches() {
        PressbrakeLane lane = Lanes.bare();
        for (int i = 1; i <= 3; i++) {
            int revision = i;
            lane.face(50, PressbrakeLane.UP);
            DUE.is("nothing is SCRAP", 0, () -> lane.redraw(0, 10 + revision, 4));
            DUE.is("the revision is one more", revision, () -> lane.told(0, 0));
        }
        DUE.is("of this part alone", 0, () -> lane.told(1, 0));
        lane.batch(0, 0, 1);
        DUE.batch("a new batch has the part's revision", lane, 0, CUT, 1, 3, 50);
    }
}
