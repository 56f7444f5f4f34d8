/** Objects as tests need them to begin with. */
final class Lanes {
    private static final int UP = PressbrakeLane.UP;
    private static final int DOWN = PressbrakeLane.DOWN;

    private Lanes() {
    }

    /** Puts faces on the pad: their lengths and, by the letters U and D, the bends between them. */
    static void draw(PressbrakeLane lane, String bends, int... lengths) {
        for (int i = 0; i < lengths.length; i++) {
            lane.face(lengths[i], i > 0 && bends.charAt(i - 1) == 'D' ? DOWN : UP);
        }
    }

    /** A tool that bends nearly all. */
    static int easyTool(PressbrakeLane lane) {
        return lane.tool(4, 0, 200, 10, 600);
    }

    /** The part 0, of width 100, and the easy tool 0. */
    static PressbrakeLane withPart(int thickness, String bends, int... lengths) {
        PressbrakeLane lane = new PressbrakeLane();
        draw(lane, bends, lengths);
        lane.part(100, thickness);
        easyTool(lane);
        return lane;
    }

    /** A batch that is worked so often. */
    static int batch(PressbrakeLane lane, int part, int tool, int many, int works) {
        int batch = lane.batch(part, tool, many);
        for (int i = 0; i < works; i++) {
            lane.work(batch);
        }
        return batch;
    }

    /** Three parts and two tools; the pad, the lot and the row of batches are empty. */
    static PressbrakeLane bare() {
        PressbrakeLane lane = new PressbrakeLane();
        lane.tool(16, 5, 60, 40, 300);
        lane.tool(4, 0, 200, 10, 600);
        lane.trial(0, 2, 3);
        lane.trial(1, 1, 0);
        draw(lane, "UU", 50, 40, 30);
        lane.part(100, 2);
        draw(lane, "D", 60, 20);
        lane.part(80, 1);
        draw(lane, "", 90);
        lane.part(60, 4);
        return lane;
    }

    /** Some of everything, with room for more: batches 0 CUT, 1 BENT, 2 COATED and 3 SCRAP, of the parts 0, 0, 2, 1. */
    static PressbrakeLane ordinary() {
        PressbrakeLane lane = bare();
        batch(lane, 0, 0, 5, 0);
        batch(lane, 0, 1, 6, 1);
        batch(lane, 2, 0, 7, 2);
        batch(lane, 1, 1, 8, 0);
        draw(lane, "D", 60, 30);
        lane.redraw(1, 80, 1);
        lane.hole(1, 0, 56, 8);
        lane.hole(1, 1, 10, 3);
        lane.want(0, 3);
        lane.want(1, 2);
        lane.want(2, 1);
        draw(lane, "D", 70, 35);
        return lane;
    }

    /** Everything at most: 6 faces, 8 parts, 6 holes in the part 1, 4 tools, 40 pieces, 20 batches of other parts. */
    static PressbrakeLane full() {
        PressbrakeLane lane = new PressbrakeLane();
        easyTool(lane);
        lane.tool(16, 5, 60, 40, 300);
        lane.tool(60, 30, 10, 200, 20);
        lane.tool(9, 10, 50, 50, 100);
        for (int part = 0; part < 8; part++) {
            for (int face = 0; face <= part % 6; face++) {
                lane.face(30 + 10 * face + part, (face + part) % 2);
            }
            lane.part(50 + 10 * part, 1 + part % 4);
            lane.want(part, 5);
        }
        for (int i = 0; i < 6; i++) {
            lane.hole(1, i % 2, 5 + 3 * i, 1 + 3 * i);
        }
        for (int i = 0; i < 20; i++) {
            batch(lane, i % 2 == 0 ? 0 : 2, 0, 1 + i, i % 3);
        }
        draw(lane, "UDDUD", 10, 20, 30, 40, 50, 60);
        return lane;
    }
}
