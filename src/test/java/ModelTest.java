import java.util.Arrays;
import java.util.Random;

/** Runs of calls, always the same ones, on the program and on the model; their answers must agree. */
public final class ModelTest {
    private static final int RUNS = 1500;
    private static final int CALLS = 512;
    private static final String[] NAMES = {
        "wipe", "part", "redraw", "hole", "isNear", "told", "tool", "trial", "blank", "why", "point", "flips",
        "flipsAnew", "ordered", "want", "clear", "nest", "batch", "work", "batchOf", "kits", "take", "face",
    };
    /** How often each call comes. */
    private static final int[] WEIGHTS = {
        1, 8, 8, 10, 12, 6, 3, 4, 5, 14, 14, 6, 3, 8, 8, 1, 12, 10, 26, 12, 6, 12, 45,
    };

    private static final Due DUE = new Due("ModelTest");
    private static final long[] SEEN = new long[NAMES.length];
    private static final long[] THROWN = new long[NAMES.length];

    private final Random random;
    private final PressbrakeLane lane = new PressbrakeLane();
    private final Model model = new Model();
    private final int run;
    /** Some runs keep to few lengths and few faces, so that drawings come again. */
    private final int[] lengths;
    private final int most;
    private final int strangeness;

    private ModelTest(int run) {
        this.run = run;
        random = new Random(run);
        int[][] pools = {{10, 20, 30}, {50, 60}, {10, 15, 25, 40, 70}, {20, 21, 200}, {30, 45, 60, 90, 120, 200}};
        lengths = pools[run % pools.length];
        most = 1 + run % 6;
        strangeness = run % 7 == 0 ? 8 : 40;
    }

    public static void main(String[] args) {
        for (int run = 0; run < RUNS; run++) {
            new ModelTest(run).go();
        }
        for (int i = 0; i < NAMES.length; i++) {
            DUE.note(SEEN[i] > 1000, NAMES[i] + " answered only " + SEEN[i] + " times");
            boolean mayThrow = !NAMES[i].equals("wipe") && !NAMES[i].equals("clear");
            DUE.note(!mayThrow || THROWN[i] > 500, NAMES[i] + " threw only " + THROWN[i] + " times");
        }
        DUE.end();
    }

    private void go() {
        for (int i = 0; i < CALLS; i++) {
            int call = i < 3 ? 6 : pick();
            int[] a = argumentsOf(call);
            String got = outcome(() -> onLane(call, a), call);
            String due = outcome(() -> onModel(call, a), -1);
            if (!got.equals(due)) {
                DUE.note(false, "run " + run + ", call " + i + ": " + NAMES[call] + " " + Arrays.toString(a)
                        + " answered " + got + ", due is " + due);
                return;
            }
        }
        DUE.note(true, "");
    }

    private static String outcome(Due.Call call, int counted) {
        try {
            String answer = Long.toString(call.answer());
            if (counted >= 0) {
                SEEN[counted]++;
            }
            return answer;
        } catch (RuntimeException e) {
            if (counted >= 0) {
                THROWN[counted]++;
            }
            return e.getClass().getSimpleName();
        }
    }

    private int pick() {
        int sum = 0;
        for (int weight : WEIGHTS) {
            sum += weight;
        }
        int at = random.nextInt(sum);
        int call = 0;
        while (at >= WEIGHTS[call]) {
            at -= WEIGHTS[call];
            call++;
        }
        return call;
    }

    /** Mostly low to high, now and then an edge, one beyond it, or anything. */
    private int any(int low, int high) {
        if (random.nextInt(strangeness) == 0) {
            int[] odd = {low, high, low - 1, high + 1, -1, Integer.MIN_VALUE, Integer.MAX_VALUE, random.nextInt()};
            return odd[random.nextInt(odd.length)];
        }
        return low + random.nextInt(high - low + 1);
    }

    private int one(int... values) {
        return random.nextInt(strangeness) == 0 ? any(values[0] - 1, values[0]) : values[random.nextInt(values.length)];
    }

    private int part() {
        return any(0, 1 + run % 7);
    }

    private int kit() {
        return random.nextInt(3) == 0 ? any(1, 7) : 1 << random.nextInt(2 + run % 7);
    }

    private int[] argumentsOf(int call) {
        switch (NAMES[call]) {
            case "face":
                return new int[] {random.nextInt(4) == 0 ? any(10, 200) : one(lengths), any(0, 1)};
            case "part":
                return new int[] {one(100, 60, 10 + run % 290), any(1, 4)};
            case "redraw":
                return new int[] {part(), one(100, 60, 10 + run % 290), any(1, 4)};
            case "hole":
                int longest = lengths[random.nextInt(lengths.length)];
                return new int[] {part(), any(0, most - 1), any(1, longest - 1), any(1, 20)};
            case "isNear":
                return new int[] {part(), any(0, 3)};
            case "told":
                return new int[] {part(), any(0, 5)};
            case "tool":
                return new int[] {any(4, 60) / (1 + run % 3), any(0, 30) / (1 + run % 4), any(10, 200), any(10, 200),
                    one(20, 30, 60, 100, 300, 600)};
            case "trial":
                return new int[] {any(0, 2), any(1, 4), any(0, 9)};
            case "blank":
            case "flips":
            case "flipsAnew":
                return new int[] {part(), any(0, 2)};
            case "why":
                return bendArguments(part(), any(0, 2));
            case "point":
                int[] bend = bendArguments(part(), 0);
                return new int[] {bend[0], bend[2], bend[3], any(0, 1), any(0, 3), any(0, 1)};
            case "ordered":
                return new int[] {part(), any(0, 2), any(0, 4)};
            case "want":
                return new int[] {part(), any(1, 9)};
            case "nest":
                int length = random.nextInt(4) == 0 ? any(50, 3000) : any(200, 700);
                int width = Math.min(length, any(50, 1500));
                return new int[] {any(0, 2), length, random.nextInt(20) == 0 ? any(50, 1500) : width, any(0, 3)};
            case "batch":
                return new int[] {part(), any(0, 2), any(1, 50)};
            case "work":
                return new int[] {random.nextInt(2) == 0 ? any(0, 5) : any(0, 19)};
            case "batchOf":
                return new int[] {any(0, 19), any(0, 3)};
            case "kits":
                return new int[] {kit()};
            case "take":
                return new int[] {kit(), random.nextInt(3) > 0 ? any(1, 5) : any(1, 50)};
            default:
                return new int[0];
        }
    }

    /** Mostly of the bends that the part has, and without the one that is bent. */
    private int[] bendArguments(int part, int tool) {
        int bends = 1;
        try {
            bends = Math.max(1, model.told(part, 1) - 1);
        } catch (IndexOutOfBoundsException e) {
            bends = 3;
        }
        int bend = any(0, bends - 1);
        int done = any(0, (1 << bends) - 1);
        return new int[] {part, tool, random.nextInt(10) == 0 ? done : done & ~(1 << bend), bend};
    }

    private long onLane(int call, int[] a) {
        switch (NAMES[call]) {
            case "face": return lane.face(a[0], a[1]);
            case "wipe": return lane.wipe();
            case "part": return lane.part(a[0], a[1]);
            case "redraw": return lane.redraw(a[0], a[1], a[2]);
            case "hole": return lane.hole(a[0], a[1], a[2], a[3]);
            case "isNear": return lane.isNear(a[0], a[1]) ? 1 : 0;
            case "told": return lane.told(a[0], a[1]);
            case "tool": return lane.tool(a[0], a[1], a[2], a[3], a[4]);
            case "trial": return lane.trial(a[0], a[1], a[2]);
            case "blank": return lane.blank(a[0], a[1]);
            case "why": return lane.why(a[0], a[1], a[2], a[3]);
            case "point": return lane.point(a[0], a[1], a[2], a[3] == 1, a[4], a[5] == 1);
            case "flips": return lane.flips(a[0], a[1]);
            case "flipsAnew": return lane.flipsAnew(a[0], a[1]);
            case "ordered": return lane.ordered(a[0], a[1], a[2]);
            case "want": return lane.want(a[0], a[1]);
            case "clear": return lane.clear();
            case "nest": return lane.nest(a[0], a[1], a[2], a[3]);
            case "batch": return lane.batch(a[0], a[1], a[2]);
            case "work": return lane.work(a[0]);
            case "batchOf": return lane.batchOf(a[0], a[1]);
            case "kits": return lane.kits(a[0]);
            default: return lane.take(a[0], a[1]);
        }
    }

    private long onModel(int call, int[] a) {
        switch (NAMES[call]) {
            case "face": return model.face(a[0], a[1]);
            case "wipe": return model.wipe();
            case "part": return model.part(a[0], a[1]);
            case "redraw": return model.redraw(a[0], a[1], a[2]);
            case "hole": return model.hole(a[0], a[1], a[2], a[3]);
            case "isNear": return model.isNear(a[0], a[1]) ? 1 : 0;
            case "told": return model.told(a[0], a[1]);
            case "tool": return model.tool(a[0], a[1], a[2], a[3], a[4]);
            case "trial": return model.trial(a[0], a[1], a[2]);
            case "blank": return model.blank(a[0], a[1]);
            case "why": return model.why(a[0], a[1], a[2], a[3]);
            case "point": return model.point(a[0], a[1], a[2], a[3] == 1, a[4], a[5] == 1);
            case "flips": return model.flips(a[0], a[1]);
            case "flipsAnew": return model.flips(a[0], a[1]);
            case "ordered": return model.ordered(a[0], a[1], a[2]);
            case "want": return model.want(a[0], a[1]);
            case "clear": return model.clear();
            case "nest": return model.nest(a[0], a[1], a[2], a[3]);
            case "batch": return model.batch(a[0], a[1], a[2]);
            case "work": return model.work(a[0]);
            case "batchOf": return model.batchOf(a[0], a[1]);
            case "kits": return model.kits(a[0]);
            default: return model.take(a[0], a[1]);
        }
    }
}
