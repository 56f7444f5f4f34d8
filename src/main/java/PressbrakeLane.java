/** Parts that are folded from sheet, the tools that bend them, nests of their blanks, batches and kits. */
public final class PressbrakeLane {
    public static final int NONE = -1;
    public static final int UP = 0, DOWN = 1;
    public static final int CAN = 0, SHORT = 1, GAUGE = 2, PUNCH = 3, TABLE = 4;
    public static final int CUT = 0, BENT = 1, COATED = 2, SCRAP = 3;

    private static final int MAX_FACES = 6;
    private static final int MAX_BENDS = MAX_FACES - 1;
    private static final int MAX_PARTS = 8;
    private static final int MAX_HOLES = 6;
    private static final int MAX_TOOLS = 4;
    private static final int MAX_LOT = 40;
    private static final int MAX_BATCHES = 20;
    private static final int MAX_PIECES = 50;
    private static final int MAX_THICKNESS = 4;
    /** Stands where the direction of the bend ahead would stand, as long as nothing is bent. */
    private static final int NO_DIRECTION = 2;
    private static final int AHEADS = 3;

    private final Drawing pad = new Drawing();
    private final Part[] parts = new Part[MAX_PARTS];
    private int partCount;
    private final Tool[] tools = new Tool[MAX_TOOLS];
    private int toolCount;
    private final int[] lot = new int[MAX_PARTS];
    private int lotCount;
    private final Batch[] batches = new Batch[MAX_BATCHES];
    private int batchCount;
    private final Brake brake = new Brake();
    private final Planner planner = new Planner();
    private final Nester nester = new Nester();

    public PressbrakeLane() {
        for (int i = 0; i < MAX_PARTS; i++) {
            parts[i] = new Part();
        }
        for (int i = 0; i < MAX_TOOLS; i++) {
            tools[i] = new Tool();
        }
        for (int i = 0; i < MAX_BATCHES; i++) {
            batches[i] = new Batch();
        }
    }

    // ---- parts

    public int face(int length, int direction) throws IllegalArgumentException, IllegalStateException {
        if (isOut(length, 10, 200) || isOut(direction, UP, DOWN)) {
            throw new IllegalArgumentException("length or direction is out of its range");
        }
        if (pad.faces >= MAX_FACES) {
            throw new IllegalStateException("the pad has 6 faces");
        }
        pad.lengths[pad.faces] = length;
        pad.directions[pad.faces] = direction;
        pad.faces++;
        return pad.faces;
    }

    public int wipe() {
        int had = pad.faces;
        pad.faces = 0;
        return had;
    }

    public int part(int width, int thickness) throws IllegalArgumentException, IllegalStateException {
        checkSheet(width, thickness);
        checkPad();
        if (partCount >= MAX_PARTS) {
            throw new IllegalStateException("there are 8 parts");
        }
        parts[partCount].draw(pad, width, thickness);
        pad.faces = 0;
        partCount++;
        return partCount - 1;
    }

    public int redraw(int part, int width, int thickness)
            throws IndexOutOfBoundsException, IllegalArgumentException, IllegalStateException {
        Part redrawn = partAt(part);
        checkSheet(width, thickness);
        checkPad();
        // Whether bent pieces still fit can only be told while the elder drawing is there.
        boolean hadHoles = redrawn.holes > 0;
        boolean isSameSheet = redrawn.width == width && redrawn.thickness == thickness;
        boolean isSameFold = redrawn.drawing.isAs(pad);
        redrawn.draw(pad, width, thickness);
        redrawn.revision++;
        pad.faces = 0;
        return changeBatches(part, isSameSheet && !hadHoles, isSameFold);
    }

    public int hole(int part, int face, int at, int diameter)
            throws IndexOutOfBoundsException, IllegalArgumentException, IllegalStateException {
        Part holed = partAt(part);
        if (isOut(face, 0, holed.drawing.faces - 1)) {
            throw new IndexOutOfBoundsException("no such face");
        }
        if (isOut(at, 1, holed.drawing.lengths[face] - 1) || isOut(diameter, 1, 20)) {
            throw new IllegalArgumentException("at or diameter is out of its range");
        }
        if (holed.holes >= MAX_HOLES || hasBatch(part)) {
            throw new IllegalStateException("the part has 6 holes, or a batch");
        }
        holed.holeFaces[holed.holes] = face;
        holed.holeAts[holed.holes] = at;
        holed.holeDiameters[holed.holes] = diameter;
        holed.holes++;
        return holed.holes - 1;
    }

    public boolean isNear(int part, int hole) throws IndexOutOfBoundsException {
        Part holed = partAt(part);
        if (isOut(hole, 0, holed.holes - 1)) {
            throw new IndexOutOfBoundsException("no such hole");
        }
        return holed.isHoleNear(hole);
    }

    public int told(int part, int what) throws IndexOutOfBoundsException, IllegalArgumentException {
        Part asked = partAt(part);
        switch (what) {
            case 0:
                return asked.revision;
            case 1:
                return asked.drawing.faces;
            case 2:
                return asked.width;
            case 3:
                return asked.thickness;
            case 4:
                return asked.holes;
            case 5:
                return asked.nearHoles();
            default:
                throw new IllegalArgumentException("what is out of its range");
        }
    }

    // ---- tools, bends

    public int tool(int opening, int punch, int die, int table, int gauge)
            throws IllegalArgumentException, IllegalStateException {
        if (isOut(opening, 4, 60) || isOut(punch, 0, 30) || isOut(die, 10, 200)
                || isOut(table, 10, 200) || isOut(gauge, 20, 600)) {
            throw new IllegalArgumentException("an argument is out of its range");
        }
        if (toolCount >= MAX_TOOLS) {
            throw new IllegalStateException("there are 4 tools");
        }
        Tool made = tools[toolCount];
        made.opening = opening;
        made.punch = punch;
        made.die = die;
        made.table = table;
        made.gauge = gauge;
        toolCount++;
        return toolCount - 1;
    }

    public int trial(int tool, int thickness, int deduction)
            throws IndexOutOfBoundsException, IllegalArgumentException {
        Tool tried = toolAt(tool);
        if (isOut(thickness, 1, MAX_THICKNESS) || isOut(deduction, 0, 9)) {
            throw new IllegalArgumentException("thickness or deduction is out of its range");
        }
        int before = tried.deductions[thickness];
        tried.deductions[thickness] = deduction;
        return before;
    }

    public int blank(int part, int tool) throws IndexOutOfBoundsException {
        Part unfolded = partAt(part);
        return unfolded.blankBy(toolAt(tool));
    }

    public int why(int part, int tool, int done, int bend)
            throws IndexOutOfBoundsException, IllegalArgumentException {
        Part bent = partAt(part);
        Tool used = toolAt(tool);
        checkBend(bent.drawing, bend);
        checkDone(bent.drawing, done, bend);
        return brake.reason(bent, used, done, bend);
    }

    public int point(int part, int done, int bend, boolean isRight, int place, boolean isV)
            throws IndexOutOfBoundsException, IllegalArgumentException {
        Drawing drawing = partAt(part).drawing;
        checkBend(drawing, bend);
        if (isOut(place, 0, drawing.wingFaces(bend, isRight) - 1)) {
            throw new IndexOutOfBoundsException("the wing has not so many faces");
        }
        checkDone(drawing, done, bend);
        Wing wing = brake.right;
        wing.unroll(drawing, done, bend, isRight);
        return isV ? wing.vs[place] : wing.us[place];
    }

    public int flips(int part, int tool) throws IndexOutOfBoundsException {
        Part bent = partAt(part);
        planner.plan(bent, toolAt(tool), brake);
        return planner.turns;
    }

    public int flipsAnew(int part, int tool) throws IndexOutOfBoundsException {
        Part bent = partAt(part);
        return planner.fewestOfAll(bent, toolAt(tool), brake);
    }

    public int ordered(int part, int tool, int place) throws IndexOutOfBoundsException {
        Part bent = partAt(part);
        Tool used = toolAt(tool);
        if (place < 0) {
            throw new IndexOutOfBoundsException("no such place");
        }
        planner.plan(bent, used, brake);
        return place < planner.placeCount ? planner.places[place] : NONE;
    }

    // ---- nests

    public int want(int part, int many)
            throws IndexOutOfBoundsException, IllegalArgumentException, IllegalStateException {
        partAt(part);
        if (isOut(many, 1, MAX_LOT)) {
            throw new IllegalArgumentException("many is out of its range");
        }
        if (lotCount + many > MAX_LOT) {
            throw new IllegalStateException("the lot would have more than 40 pieces");
        }
        lot[part] += many;
        lotCount += many;
        return lotCount;
    }

    public int clear() {
        int had = lotCount;
        for (int i = 0; i < MAX_PARTS; i++) {
            lot[i] = 0;
        }
        lotCount = 0;
        return had;
    }

    public long nest(int tool, int length, int width, int what)
            throws IndexOutOfBoundsException, IllegalArgumentException {
        Tool used = toolAt(tool);
        if (isOut(length, 50, 3000) || isOut(width, 50, Math.min(1500, length)) || isOut(what, 0, 3)) {
            throw new IllegalArgumentException("length, width or what is out of its range");
        }
        nester.start(length, width);
        for (int i = 0; i < partCount; i++) {
            if (lot[i] > 0) {
                nester.addKind(parts[i].blankBy(used), parts[i].width, lot[i]);
            }
        }
        if (!nester.doAllFit()) {
            return NONE;
        }
        nester.layAll();
        return nester.tell(what);
    }

    // ---- batches, kits

    public int batch(int part, int tool, int many)
            throws IndexOutOfBoundsException, IllegalArgumentException, IllegalStateException {
        Part of = partAt(part);
        Tool by = toolAt(tool);
        if (isOut(many, 1, MAX_PIECES)) {
            throw new IllegalArgumentException("many is out of its range");
        }
        if (batchCount >= MAX_BATCHES) {
            throw new IllegalStateException("there are 20 batches");
        }
        Batch made = batches[batchCount];
        made.part = part;
        made.tool = tool;
        made.state = CUT;
        made.pieces = many;
        made.revision = of.revision;
        made.cutLength = of.blankBy(by);
        batchCount++;
        return batchCount - 1;
    }

    public int work(int batch) throws IndexOutOfBoundsException, IllegalStateException {
        Batch worked = batchAt(batch);
        if (worked.state != CUT && worked.state != BENT) {
            throw new IllegalStateException("the batch is neither CUT nor BENT");
        }
        if (worked.state == CUT && !hasOrder(worked)) {
            throw new IllegalStateException("the part has no order by the tool of the batch");
        }
        worked.state = worked.state == CUT ? BENT : COATED;
        return worked.state;
    }

    public int batchOf(int batch, int what) throws IndexOutOfBoundsException, IllegalArgumentException {
        Batch asked = batchAt(batch);
        switch (what) {
            case 0:
                return asked.state;
            case 1:
                return asked.pieces;
            case 2:
                return asked.revision;
            case 3:
                return asked.cutLength;
            default:
                throw new IllegalArgumentException("what is out of its range");
        }
    }

    public int kits(int parts) throws IllegalArgumentException {
        checkKit(parts);
        return kitsOf(parts);
    }

    public int take(int parts, int many) throws IllegalArgumentException, IllegalStateException {
        checkKit(parts);
        if (isOut(many, 1, MAX_PIECES)) {
            throw new IllegalArgumentException("many is out of its range");
        }
        if (kitsOf(parts) < many) {
            throw new IllegalStateException("there are not so many kits");
        }
        int emptied = 0;
        for (int i = 0; i < partCount; i++) {
            if (hasBit(parts, i)) {
                emptied += takePieces(i, many);
            }
        }
        return emptied;
    }

    // ---- what a call looks at first

    private static boolean isOut(int value, int low, int high) {
        return value < low || value > high;
    }

    private static boolean hasBit(int bits, int bit) {
        return (bits >> bit & 1) != 0;
    }

    private Part partAt(int part) {
        if (isOut(part, 0, partCount - 1)) {
            throw new IndexOutOfBoundsException("no such part");
        }
        return parts[part];
    }

    private Tool toolAt(int tool) {
        if (isOut(tool, 0, toolCount - 1)) {
            throw new IndexOutOfBoundsException("no such tool");
        }
        return tools[tool];
    }

    private Batch batchAt(int batch) {
        if (isOut(batch, 0, batchCount - 1)) {
            throw new IndexOutOfBoundsException("no such batch");
        }
        return batches[batch];
    }

    private static void checkSheet(int width, int thickness) {
        if (isOut(width, 10, 300) || isOut(thickness, 1, MAX_THICKNESS)) {
            throw new IllegalArgumentException("width or thickness is out of its range");
        }
    }

    private void checkPad() {
        if (pad.faces == 0) {
            throw new IllegalStateException("the pad is empty");
        }
    }

    private static void checkBend(Drawing drawing, int bend) {
        if (isOut(bend, 0, drawing.bends() - 1)) {
            throw new IndexOutOfBoundsException("no such bend");
        }
    }

    private static void checkDone(Drawing drawing, int done, int bend) {
        if (done >>> drawing.bends() != 0 || hasBit(done, bend)) {
            throw new IllegalArgumentException("done has a bend that there is not, or the bend itself");
        }
    }

    private void checkKit(int kit) {
        if (kit == 0 || kit >>> partCount != 0) {
            throw new IllegalArgumentException("the kit has no part, or one that there is not");
        }
    }

    // ---- batches

    private boolean hasBatch(int part) {
        for (int i = 0; i < batchCount; i++) {
            if (batches[i].part == part && batches[i].state != SCRAP) {
                return true;
            }
        }
        return false;
    }

    private boolean hasOrder(Batch batch) {
        planner.plan(parts[batch.part], tools[batch.tool], brake);
        return planner.turns != NONE;
    }

    /** Takes the batches of a part to its new drawing; returns how many pieces are SCRAP by that. */
    private int changeBatches(int part, boolean isSameSheet, boolean isSameFold) {
        int scrapped = 0;
        for (int i = 0; i < batchCount; i++) {
            Batch changed = batches[i];
            if (changed.part != part || changed.state == SCRAP) {
                continue;
            }
            boolean isSameShape = changed.state == CUT
                    ? changed.cutLength == parts[part].blankBy(tools[changed.tool])
                    : isSameFold;
            if (isSameSheet && isSameShape) {
                changed.revision = parts[part].revision;
            } else {
                changed.state = SCRAP;
                scrapped += changed.pieces;
            }
        }
        return scrapped;
    }

    private int kitsOf(int kit) {
        int fewest = MAX_BATCHES * MAX_PIECES;
        for (int i = 0; i < partCount; i++) {
            if (hasBit(kit, i)) {
                fewest = Math.min(fewest, coatedPieces(i));
            }
        }
        return fewest;
    }

    private int coatedPieces(int part) {
        int pieces = 0;
        for (int i = 0; i < batchCount; i++) {
            if (batches[i].part == part && batches[i].state == COATED) {
                pieces += batches[i].pieces;
            }
        }
        return pieces;
    }

    /** Takes pieces that are there; returns how many batches have none any more by that. */
    private int takePieces(int part, int many) {
        int left = many;
        int emptied = 0;
        for (int i = 0; i < batchCount && left > 0; i++) {
            Batch used = batches[i];
            if (used.part == part && used.state == COATED && used.pieces > 0) {
                int taken = Math.min(left, used.pieces);
                used.pieces -= taken;
                left -= taken;
                emptied += used.pieces == 0 ? 1 : 0;
            }
        }
        return emptied;
    }

    /** Faces in a row; the direction at a place is of the bend ahead of the face there. */
    private static final class Drawing {
        final int[] lengths = new int[MAX_FACES];
        final int[] directions = new int[MAX_FACES];
        int faces;

        int bends() {
            return faces > 0 ? faces - 1 : 0;
        }

        int directionOf(int bend) {
            return directions[bend + 1];
        }

        int wingFaces(int bend, boolean isRight) {
            return isRight ? faces - 1 - bend : bend + 1;
        }

        int flatLength() {
            int length = 0;
            for (int i = 0; i < faces; i++) {
                length += lengths[i];
            }
            return length;
        }

        void copy(Drawing other) {
            faces = other.faces;
            for (int i = 0; i < MAX_FACES; i++) {
                lengths[i] = other.lengths[i];
                directions[i] = other.directions[i];
            }
        }

        boolean isAs(Drawing other) {
            if (faces != other.faces) {
                return false;
            }
            for (int i = 0; i < faces; i++) {
                // No bend is ahead of the first face, so its direction tells nothing.
                boolean isTurned = i > 0 && directions[i] != other.directions[i];
                if (isTurned || lengths[i] != other.lengths[i]) {
                    return false;
                }
            }
            return true;
        }
    }

    private static final class Part {
        final Drawing drawing = new Drawing();
        int width;
        int thickness;
        int revision;
        final int[] holeFaces = new int[MAX_HOLES];
        final int[] holeAts = new int[MAX_HOLES];
        final int[] holeDiameters = new int[MAX_HOLES];
        int holes;

        void draw(Drawing drawn, int newWidth, int newThickness) {
            drawing.copy(drawn);
            width = newWidth;
            thickness = newThickness;
            holes = 0;
        }

        int blankBy(Tool tool) {
            return drawing.flatLength() - drawing.bends() * tool.deductions[thickness];
        }

        boolean isHoleNear(int hole) {
            int face = holeFaces[hole];
            int reach = 2 * thickness + holeDiameters[hole] / 2;
            boolean isNearAhead = face > 0 && holeAts[hole] < reach;
            boolean isNearBehind = face < drawing.faces - 1 && drawing.lengths[face] - holeAts[hole] < reach;
            return isNearAhead || isNearBehind;
        }

        int nearHoles() {
            int near = 0;
            for (int i = 0; i < holes; i++) {
                near += isHoleNear(i) ? 1 : 0;
            }
            return near;
        }
    }

    private static final class Tool {
        int opening;
        int punch;
        int die;
        int table;
        int gauge;
        /** By thickness, so the place 0 is not used. */
        final int[] deductions = new int[MAX_THICKNESS + 1];

        Tool() {
            for (int i = 1; i <= MAX_THICKNESS; i++) {
                deductions[i] = 2 * i;
            }
        }
    }

    private static final class Batch {
        int part;
        int tool;
        int state;
        int pieces;
        int revision;
        int cutLength;
    }

    /** The faces to one side of a bend, as they stand when it is bent. */
    private static final class Wing {
        final int[] us = new int[MAX_FACES];
        final int[] vs = new int[MAX_FACES];
        int points;
        int run;

        void unroll(Drawing drawing, int done, int bend, boolean isRight) {
            points = drawing.wingFaces(bend, isRight);
            run = 0;
            int side = isRight ? 1 : -1;
            int u = 0;
            int v = 0;
            int alongU = 1;
            int alongV = 0;
            boolean isRunning = true;
            for (int i = 0; i < points; i++) {
                // The bend that is bent now is never done, so the first face goes along u.
                int crossed = bend + side * i;
                if (hasBit(done, crossed)) {
                    int left = drawing.directionOf(crossed) == drawing.directionOf(bend) ? 1 : -1;
                    int turnedU = -left * alongV;
                    alongV = left * alongU;
                    alongU = turnedU;
                    isRunning = false;
                }
                int length = drawing.lengths[isRight ? crossed + 1 : crossed];
                u += alongU * length;
                v += alongV * length;
                us[i] = u;
                vs[i] = v;
                run += isRunning ? length : 0;
            }
        }

        boolean hitsPunch(int punch) {
            for (int i = 0; i < points; i++) {
                if (vs[i] > 0 && vs[i] + punch > us[i]) {
                    return true;
                }
            }
            return false;
        }

        boolean hitsTable(int die, int table) {
            for (int i = 0; i < points; i++) {
                if (-vs[i] > die && us[i] < table) {
                    return true;
                }
            }
            return false;
        }
    }

    private static final class Brake {
        final Wing right = new Wing();
        final Wing left = new Wing();

        int reason(Part part, Tool tool, int done, int bend) {
            right.unroll(part.drawing, done, bend, true);
            left.unroll(part.drawing, done, bend, false);
            if (Math.min(right.run, left.run) < tool.opening / 2 + part.thickness) {
                return SHORT;
            }
            if (Math.min(right.run, left.run) > tool.gauge) {
                return GAUGE;
            }
            if (right.hitsPunch(tool.punch) || left.hitsPunch(tool.punch)) {
                return PUNCH;
            }
            if (right.hitsTable(tool.die, tool.table) || left.hitsTable(tool.die, tool.table)) {
                return TABLE;
            }
            return CAN;
        }
    }

    /** Finds the order of a part by a tool. */
    private static final class Planner {
        /** For each set of bends that are done: a bit for each bend that is possible then. */
        private final int[] possible = new int[1 << MAX_BENDS];
        /** For each such set and each direction ahead: the fewest turns that the other bends cost, or NONE. */
        private final int[] fewest = new int[(1 << MAX_BENDS) * AHEADS];
        private final int[] directions = new int[MAX_BENDS];
        private int bends;
        final int[] places = new int[MAX_BENDS];
        int placeCount;
        int turns;

        void plan(Part part, Tool tool, Brake brake) {
            look(part, tool, brake);
            for (int done = (1 << bends) - 1; done >= 0; done--) {
                for (int ahead = 0; ahead < AHEADS; ahead++) {
                    int next = bestNext(done, ahead);
                    fewest[done * AHEADS + ahead] = next == NONE ? restOfNone(done) : turnsBy(done, ahead, next);
                }
            }
            turns = fewest[NO_DIRECTION];
            placeCount = turns == NONE ? 0 : bends;
            int done = 0;
            int ahead = NO_DIRECTION;
            for (int i = 0; i < placeCount; i++) {
                int next = bestNext(done, ahead);
                if (next == NONE) {
                    return;
                }
                places[i] = next;
                done |= 1 << next;
                ahead = directions[next];
            }
        }

        /** The turns of the order, found without plan's table of sets, so that each may check the other. */
        int fewestOfAll(Part part, Tool tool, Brake brake) {
            look(part, tool, brake);
            return fewestBeyond(this, 0, NO_DIRECTION, 0);
        }

        private void look(Part part, Tool tool, Brake brake) {
            bends = part.drawing.bends();
            for (int i = 0; i < bends; i++) {
                directions[i] = part.drawing.directionOf(i);
            }
            for (int done = 0; done < 1 << bends; done++) {
                possible[done] = 0;
                for (int i = 0; i < bends; i++) {
                    if (!hasBit(done, i) && brake.reason(part, tool, done, i) == CAN) {
                        possible[done] |= 1 << i;
                    }
                }
            }
        }

        /** The lowest of the bends with the fewest turns from there on; NONE if nothing is left, or possible. */
        private int bestNext(int done, int ahead) {
            int best = NONE;
            int bestTurns = NONE;
            for (int i = 0; i < bends; i++) {
                int cost = hasBit(possible[done], i) ? turnsBy(done, ahead, i) : NONE;
                if (cost != NONE && (best == NONE || cost < bestTurns)) {
                    best = i;
                    bestTurns = cost;
                }
            }
            return best;
        }

        private int turnsBy(int done, int ahead, int next) {
            int rest = fewest[(done | 1 << next) * AHEADS + directions[next]];
            return rest == NONE ? NONE : rest + turn(ahead, next);
        }

        private int restOfNone(int done) {
            return done == (1 << bends) - 1 ? 0 : NONE;
        }

        private int turn(int ahead, int next) {
            return ahead == NO_DIRECTION || ahead == directions[next] ? 0 : 1;
        }

        private static int fewestBeyond(Planner planner, int done, int ahead, int depth) {
            if (depth >= planner.bends) {
                return 0;
            }
            int least = NONE;
            for (int i = 0; i < planner.bends; i++) {
                if (!hasBit(planner.possible[done], i)) {
                    continue;
                }
                int rest = fewestBeyond(planner, done | 1 << i, planner.directions[i], depth + 1);
                if (rest != NONE && (least == NONE || rest + planner.turn(ahead, i) < least)) {
                    least = rest + planner.turn(ahead, i);
                }
            }
            return least;
        }
    }

    /** Lays the pieces of a lot on sheets. */
    private static final class Nester {
        private int sheetLength;
        private int sheetWidth;
        /** The kinds of pieces, one for each part in the lot, in the order in which they are laid. */
        private final int[] longSides = new int[MAX_PARTS];
        private final int[] shortSides = new int[MAX_PARTS];
        private final int[] amounts = new int[MAX_PARTS];
        private int kinds;
        private final int[] rowSheets = new int[MAX_LOT];
        private final int[] rowHeights = new int[MAX_LOT];
        private final int[] rowLefts = new int[MAX_LOT];
        /** The shorter side of the last piece of each row; a new row has 0, which no piece has. */
        private final int[] rowEnds = new int[MAX_LOT];
        private int rows;
        private final int[] sheetLefts = new int[MAX_LOT];
        private int sheets;
        private long cuts;
        private long covered;

        void start(int length, int width) {
            sheetLength = length;
            sheetWidth = width;
            kinds = 0;
            rows = 0;
            sheets = 0;
            cuts = 0;
            covered = 0;
        }

        /** Kinds come by falling sides; kinds that are alike must be added by parts. */
        void addKind(int length, int width, int amount) {
            if (kinds >= MAX_PARTS) {
                return;
            }
            int longSide = Math.max(length, width);
            int shortSide = Math.min(length, width);
            int place = kinds;
            while (place > 0 && isBigger(longSide, shortSide, place - 1)) {
                longSides[place] = longSides[place - 1];
                shortSides[place] = shortSides[place - 1];
                amounts[place] = amounts[place - 1];
                place--;
            }
            longSides[place] = longSide;
            shortSides[place] = shortSide;
            amounts[place] = amount;
            kinds++;
        }

        private boolean isBigger(int longSide, int shortSide, int kind) {
            return longSide > longSides[kind] || longSide == longSides[kind] && shortSide > shortSides[kind];
        }

        boolean doAllFit() {
            for (int i = 0; i < kinds; i++) {
                if (longSides[i] > sheetLength || shortSides[i] > sheetWidth) {
                    return false;
                }
            }
            return true;
        }

        void layAll() {
            for (int i = 0; i < kinds; i++) {
                for (int k = 0; k < amounts[i]; k++) {
                    lay(longSides[i], shortSides[i]);
                }
            }
        }

        private void lay(int longSide, int shortSide) {
            int row = rowFor(longSide, shortSide);
            if (row == NONE) {
                row = newRow(shortSide);
            }
            if (row == NONE) {
                return;
            }
            cuts += 2 * (longSide + shortSide);
            if (rowEnds[row] == shortSide) {
                cuts -= shortSide;
            }
            covered += longSide * shortSide;
            rowLefts[row] -= longSide;
            rowEnds[row] = shortSide;
        }

        /** Rows are kept as they were opened, so one of an earlier sheet may stand behind those of later ones. */
        private int rowFor(int longSide, int shortSide) {
            int first = NONE;
            for (int i = 0; i < rows; i++) {
                boolean hasRoom = rowHeights[i] >= shortSide && rowLefts[i] >= longSide;
                if (hasRoom && (first == NONE || rowSheets[i] < rowSheets[first])) {
                    first = i;
                }
            }
            return first;
        }

        private int newRow(int height) {
            int sheet = sheetFor(height);
            if (sheet == NONE || rows >= MAX_LOT) {
                return NONE;
            }
            sheetLefts[sheet] -= height;
            rowSheets[rows] = sheet;
            rowHeights[rows] = height;
            rowLefts[rows] = sheetLength;
            rowEnds[rows] = 0;
            rows++;
            return rows - 1;
        }

        private int sheetFor(int height) {
            for (int i = 0; i < sheets; i++) {
                if (sheetLefts[i] >= height) {
                    return i;
                }
            }
            if (sheets >= MAX_LOT) {
                return NONE;
            }
            sheetLefts[sheets] = sheetWidth;
            sheets++;
            return sheets - 1;
        }

        long tell(int what) {
            switch (what) {
                case 0:
                    return sheets;
                case 1:
                    return rows;
                case 2:
                    return cuts;
                default:
                    return (long) sheets * sheetLength * sheetWidth - covered;
            }
        }
    }
}
