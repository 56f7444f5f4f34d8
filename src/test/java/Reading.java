import java.util.ArrayList;
import java.util.List;

/** All that an object tells, read by calls after which it is not used any more; what they threw is read as well. */
final class Reading {
    private static final int PARTS = 9;
    private static final int TOOLS = 4;
    private static final int BATCHES = 21;

    private final PressbrakeLane lane;
    private final List<String> answers = new ArrayList<>();

    private Reading(PressbrakeLane lane) {
        this.lane = lane;
    }

    static List<String> of(PressbrakeLane lane) {
        Reading reading = new Reading(lane);
        reading.parts();
        reading.bends();
        reading.nests();
        reading.batches();
        reading.nextOnes();
        reading.pad();
        return reading.answers;
    }

    private void read(String call, Due.Call asked) {
        String answer;
        try {
            answer = Long.toString(asked.answer());
        } catch (RuntimeException e) {
            answer = e.getClass().getSimpleName();
        }
        answers.add(call + " = " + answer);
    }

    private void parts() {
        for (int p = 0; p < PARTS; p++) {
            int part = p;
            for (int w = 0; w < 6; w++) {
                int what = w;
                read("told(" + p + ", " + w + ")", () -> lane.told(part, what));
            }
        }
        for (int h = 0; h < 6; h++) {
            int hole = h;
            read("isNear(1, " + h + ")", () -> lane.isNear(1, hole) ? 1 : 0);
        }
    }

    private void bends() {
        for (int p = 0; p < PARTS; p++) {
            int part = p;
            for (int t = 0; t < TOOLS; t++) {
                int tool = t;
                read("blank(" + p + ", " + t + ")", () -> lane.blank(part, tool));
                read("flips(" + p + ", " + t + ")", () -> lane.flips(part, tool));
            }
            read("ordered(" + p + ", 0, 0)", () -> lane.ordered(part, 0, 0));
            read("v of " + p, () -> lane.point(part, 2, 0, true, 1, true));
        }
    }

    private void nests() {
        for (int w = 0; w < 4; w++) {
            int what = w;
            read("nest(0, 3000, 1500, " + w + ")", () -> lane.nest(0, 3000, 1500, what));
            read("nest(1, 400, 250, " + w + ")", () -> lane.nest(1, 400, 250, what));
        }
    }

    private void batches() {
        for (int b = 0; b < BATCHES; b++) {
            int batch = b;
            for (int w = 0; w < 4; w++) {
                int what = w;
                read("batchOf(" + b + ", " + w + ")", () -> lane.batchOf(batch, what));
            }
        }
        for (int p = 0; p < PARTS; p++) {
            int parts = 1 << p;
            read("kits(" + parts + ")", () -> lane.kits(parts));
        }
    }

    /** What each call that makes, works or takes something answers next. */
    private void nextOnes() {
        for (int t = 0; t < TOOLS; t++) {
            int tool = t;
            for (int i = 1; i <= 4; i++) {
                int thickness = i;
                read("trial(" + t + ", " + i + ", 5)", () -> lane.trial(tool, thickness, 5));
            }
        }
        for (int b = 0; b < BATCHES; b += 3) {
            int batch = b;
            read("work(" + b + ")", () -> lane.work(batch));
        }
        read("hole(1, 0, 1, 1)", () -> lane.hole(1, 0, 1, 1));
        read("take(4, 1)", () -> lane.take(4, 1));
        read("tool", () -> lane.tool(4, 0, 10, 10, 20));
        read("batch", () -> lane.batch(0, 0, 1));
        read("want", () -> lane.want(0, 1));
        read("clear", () -> lane.clear());
    }

    /** The pad shows in the part that is redrawn by it. */
    private void pad() {
        read("face", () -> lane.face(11, PressbrakeLane.UP));
        read("redraw", () -> lane.redraw(0, 100, 1));
        read("revision", () -> lane.told(0, 0));
        read("faces", () -> lane.told(0, 1));
        read("the first face", () -> lane.point(0, 0, 0, false, 0, false));
        for (int p = 0; p < 5; p++) {
            int place = p;
            int done = (1 << p + 1) - 2;
            read("u of place " + p, () -> lane.point(0, done, 0, true, place, false));
            read("v of place " + p, () -> lane.point(0, done, 0, true, place, true));
        }
        read("wipe", () -> lane.wipe());
        read("another face", () -> lane.face(12, PressbrakeLane.UP));
        read("part", () -> lane.part(100, 1));
    }
}
