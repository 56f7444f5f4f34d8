import java.util.ArrayList;
import java.util.Comparator;
import java.util.List;

/** The document once more, as plainly as it can be written, with all of the library and no thought of cost. */
final class Model {
    record Face(int length, int direction) { }

    record Hole(int face, int at, int diameter) { }

    record Point(int u, int v) { }

    record Piece(int longSide, int shortSide, int part) { }

    static final class Part {
        List<Face> faces;
        int width;
        int thickness;
        int revision;
        final List<Hole> holes = new ArrayList<>();
    }

    static final class Tool {
        int opening, punch, die, table, gauge;
        final int[] deductions = {0, 2, 4, 6, 8};
    }

    static final class Batch {
        int part, tool, state, pieces, revision, length;
    }

    static final class Row {
        int height, used;
        final List<Piece> pieces = new ArrayList<>();
    }

    static final class Sheet {
        int used;
        final List<Row> rows = new ArrayList<>();
    }

    private List<Face> pad = new ArrayList<>();
    private final List<Part> parts = new ArrayList<>();
    private final List<Tool> tools = new ArrayList<>();
    private final List<Integer> lot = new ArrayList<>();
    private final List<Batch> batches = new ArrayList<>();

    private static void index(boolean isThere) {
        if (!isThere) {
            throw new IndexOutOfBoundsException();
        }
    }

    private static void argument(boolean isRight) {
        if (!isRight) {
            throw new IllegalArgumentException();
        }
    }

    private static void state(boolean isRight) {
        if (!isRight) {
            throw new IllegalStateException();
        }
    }

    private Part partOf(int part) {
        index(part >= 0 && part < parts.size());
        return parts.get(part);
    }

    private Tool toolOf(int tool) {
        index(tool >= 0 && tool < tools.size());
        return tools.get(tool);
    }

    int face(int length, int direction) {
        argument(length >= 10 && length <= 200 && (direction == 0 || direction == 1));
        state(pad.size() < 6);
        pad.add(new Face(length, direction));
        return pad.size();
    }

    int wipe() {
        int had = pad.size();
        pad = new ArrayList<>();
        return had;
    }

    private static void sheet(int width, int thickness) {
        argument(width >= 10 && width <= 300 && thickness >= 1 && thickness <= 4);
    }

    int part(int width, int thickness) {
        sheet(width, thickness);
        state(!pad.isEmpty() && parts.size() < 8);
        Part made = new Part();
        made.faces = pad;
        made.width = width;
        made.thickness = thickness;
        pad = new ArrayList<>();
        parts.add(made);
        return parts.size() - 1;
    }

    int redraw(int part, int width, int thickness) {
        Part p = partOf(part);
        sheet(width, thickness);
        state(!pad.isEmpty());
        List<Face> elder = p.faces;
        int elderWidth = p.width;
        int elderThickness = p.thickness;
        boolean hadHoles = !p.holes.isEmpty();
        p.faces = pad;
        p.width = width;
        p.thickness = thickness;
        p.holes.clear();
        p.revision++;
        pad = new ArrayList<>();
        int scrap = 0;
        for (Batch b : batches) {
            if (b.part != part || b.state == 3) {
                continue;
            }
            boolean goesOn = elderWidth == width && elderThickness == thickness && !hadHoles;
            if (b.state == 0) {
                goesOn = goesOn && b.length == blank(part, b.tool);
            } else {
                goesOn = goesOn && foldOf(elder).equals(foldOf(p.faces));
            }
            if (goesOn) {
                b.revision = p.revision;
            } else {
                b.state = 3;
                scrap += b.pieces;
            }
        }
        return scrap;
    }

    private static List<Integer> foldOf(List<Face> faces) {
        List<Integer> fold = new ArrayList<>();
        for (int i = 0; i < faces.size(); i++) {
            if (i > 0) {
                fold.add(-1 - faces.get(i).direction());
            }
            fold.add(faces.get(i).length());
        }
        return fold;
    }

    int hole(int part, int face, int at, int diameter) {
        Part p = partOf(part);
        index(face >= 0 && face < p.faces.size());
        argument(at >= 1 && at < p.faces.get(face).length() && diameter >= 1 && diameter <= 20);
        state(p.holes.size() < 6 && batches.stream().noneMatch(b -> b.part == part && b.state != 3));
        p.holes.add(new Hole(face, at, diameter));
        return p.holes.size() - 1;
    }

    boolean isNear(int part, int hole) {
        Part p = partOf(part);
        index(hole >= 0 && hole < p.holes.size());
        Hole h = p.holes.get(hole);
        List<Integer> distances = new ArrayList<>();
        if (h.face() != 0) {
            distances.add(h.at());
        }
        if (h.face() != p.faces.size() - 1) {
            distances.add(p.faces.get(h.face()).length() - h.at());
        }
        return distances.stream().anyMatch(d -> d < 2 * p.thickness + h.diameter() / 2);
    }

    int told(int part, int what) {
        Part p = partOf(part);
        argument(what >= 0 && what <= 5);
        int near = 0;
        for (int i = 0; i < p.holes.size(); i++) {
            near += isNear(part, i) ? 1 : 0;
        }
        return new int[] {p.revision, p.faces.size(), p.width, p.thickness, p.holes.size(), near}[what];
    }

    int tool(int opening, int punch, int die, int table, int gauge) {
        argument(opening >= 4 && opening <= 60 && punch >= 0 && punch <= 30 && die >= 10 && die <= 200
                && table >= 10 && table <= 200 && gauge >= 20 && gauge <= 600);
        state(tools.size() < 4);
        Tool t = new Tool();
        t.opening = opening;
        t.punch = punch;
        t.die = die;
        t.table = table;
        t.gauge = gauge;
        tools.add(t);
        return tools.size() - 1;
    }

    int trial(int tool, int thickness, int deduction) {
        Tool t = toolOf(tool);
        argument(thickness >= 1 && thickness <= 4 && deduction >= 0 && deduction <= 9);
        int before = t.deductions[thickness];
        t.deductions[thickness] = deduction;
        return before;
    }

    int blank(int part, int tool) {
        Part p = partOf(part);
        Tool t = toolOf(tool);
        int sum = p.faces.stream().mapToInt(Face::length).sum();
        return sum - t.deductions[p.thickness] * (p.faces.size() - 1);
    }

    /** The bends of a wing with the faces behind them, from the bend that is bent on. */
    private static List<int[]> steps(List<Face> faces, int bend, boolean isRight) {
        List<int[]> steps = new ArrayList<>();
        if (isRight) {
            for (int f = bend + 1; f < faces.size(); f++) {
                steps.add(new int[] {f - 1, f});
            }
        } else {
            for (int f = bend; f >= 0; f--) {
                steps.add(new int[] {f, f});
            }
        }
        return steps;
    }

    private static List<Point> wing(List<Face> faces, int done, int bend, boolean isRight) {
        // Quarters of a turn to the left: 0 along u, 1 along v, 2 back along u, 3 back along v.
        int heading = 0;
        Point at = new Point(0, 0);
        List<Point> points = new ArrayList<>();
        for (int[] step : steps(faces, bend, isRight)) {
            if (!points.isEmpty() && (done & 1 << step[0]) != 0) {
                boolean isLeft = faces.get(step[0] + 1).direction() == faces.get(bend + 1).direction();
                heading = (heading + (isLeft ? 1 : 3)) % 4;
            }
            int length = faces.get(step[1]).length();
            switch (heading) {
                case 0 -> at = new Point(at.u() + length, at.v());
                case 1 -> at = new Point(at.u(), at.v() + length);
                case 2 -> at = new Point(at.u() - length, at.v());
                default -> at = new Point(at.u(), at.v() - length);
            }
            points.add(at);
        }
        return points;
    }

    private static int run(List<Face> faces, int done, int bend, boolean isRight) {
        int run = 0;
        boolean isFirst = true;
        for (int[] step : steps(faces, bend, isRight)) {
            if (!isFirst && (done & 1 << step[0]) != 0) {
                break;
            }
            run += faces.get(step[1]).length();
            isFirst = false;
        }
        return run;
    }

    private static int reason(Part p, Tool t, int done, int bend) {
        int left = run(p.faces, done, bend, false);
        int right = run(p.faces, done, bend, true);
        int least = t.opening / 2 + p.thickness;
        if (left < least || right < least) {
            return 1;
        }
        if (left > t.gauge && right > t.gauge) {
            return 2;
        }
        List<Point> points = wing(p.faces, done, bend, false);
        points.addAll(wing(p.faces, done, bend, true));
        if (points.stream().anyMatch(a -> a.v() > 0 && a.v() + t.punch > a.u())) {
            return 3;
        }
        return points.stream().anyMatch(a -> a.v() < -t.die && a.u() < t.table) ? 4 : 0;
    }

    private static void bend(Part p, int bend) {
        index(bend >= 0 && bend < p.faces.size() - 1);
    }

    private static void done(Part p, int done, int bend) {
        argument(done >= 0 && done < 1 << p.faces.size() - 1 && (done & 1 << bend) == 0);
    }

    int why(int part, int tool, int done, int bend) {
        Part p = partOf(part);
        Tool t = toolOf(tool);
        bend(p, bend);
        done(p, done, bend);
        return reason(p, t, done, bend);
    }

    int point(int part, int done, int bend, boolean isRight, int place, boolean isV) {
        Part p = partOf(part);
        bend(p, bend);
        index(place >= 0 && place < steps(p.faces, bend, isRight).size());
        done(p, done, bend);
        Point point = wing(p.faces, done, bend, isRight).get(place);
        return isV ? point.v() : point.u();
    }

    private static int turns(Part p, List<Integer> order) {
        int turns = 0;
        for (int i = 1; i < order.size(); i++) {
            int ahead = p.faces.get(order.get(i - 1) + 1).direction();
            turns += p.faces.get(order.get(i) + 1).direction() != ahead ? 1 : 0;
        }
        return turns;
    }

    /** All possible orders, in the order of their places. */
    private static void orders(Part p, Tool t, List<Integer> begun, List<List<Integer>> found) {
        if (begun.size() == p.faces.size() - 1) {
            found.add(new ArrayList<>(begun));
            return;
        }
        int done = 0;
        for (int bend : begun) {
            done |= 1 << bend;
        }
        for (int bend = 0; bend < p.faces.size() - 1; bend++) {
            if (!begun.contains(bend) && reason(p, t, done, bend) == 0) {
                begun.add(bend);
                orders(p, t, begun, found);
                begun.remove(begun.size() - 1);
            }
        }
    }

    /** The order of a part, or null. */
    private List<Integer> order(Part p, Tool t) {
        List<List<Integer>> found = new ArrayList<>();
        orders(p, t, new ArrayList<>(), found);
        List<Integer> best = null;
        for (List<Integer> order : found) {
            if (best == null || turns(p, order) < turns(p, best)) {
                best = order;
            }
        }
        return best;
    }

    int flips(int part, int tool) {
        Part p = partOf(part);
        List<Integer> order = order(p, toolOf(tool));
        return order == null ? -1 : turns(p, order);
    }

    int ordered(int part, int tool, int place) {
        Part p = partOf(part);
        Tool t = toolOf(tool);
        index(place >= 0);
        List<Integer> order = order(p, t);
        return order == null || place >= order.size() ? -1 : order.get(place);
    }

    int want(int part, int many) {
        partOf(part);
        argument(many >= 1 && many <= 40);
        state(lot.size() + many <= 40);
        for (int i = 0; i < many; i++) {
            lot.add(part);
        }
        return lot.size();
    }

    int clear() {
        int had = lot.size();
        lot.clear();
        return had;
    }

    long nest(int tool, int length, int width, int what) {
        toolOf(tool);
        argument(length >= 50 && length <= 3000 && width >= 50 && width <= 1500 && width <= length
                && what >= 0 && what <= 3);
        List<Piece> pieces = new ArrayList<>();
        for (int part : lot) {
            int blank = blank(part, tool);
            int wide = parts.get(part).width;
            pieces.add(new Piece(Math.max(blank, wide), Math.min(blank, wide), part));
        }
        if (pieces.stream().anyMatch(p -> p.longSide() > length || p.shortSide() > width)) {
            return -1;
        }
        pieces.sort(Comparator.comparing(Piece::longSide).thenComparing(Piece::shortSide).reversed()
                .thenComparing(Piece::part));
        List<Sheet> sheets = new ArrayList<>();
        for (Piece piece : pieces) {
            Row row = rowFor(sheets, piece, length, width);
            row.pieces.add(piece);
            row.used += piece.longSide();
        }
        return new long[] {sheets.size(), sheets.stream().mapToInt(s -> s.rows.size()).sum(), cuts(sheets),
            (long) sheets.size() * length * width
                - pieces.stream().mapToLong(p -> (long) p.longSide() * p.shortSide()).sum()}[what];
    }

    private static Row rowFor(List<Sheet> sheets, Piece piece, int length, int width) {
        for (Sheet sheet : sheets) {
            for (Row row : sheet.rows) {
                if (row.height >= piece.shortSide() && length - row.used >= piece.longSide()) {
                    return row;
                }
            }
        }
        Row row = new Row();
        row.height = piece.shortSide();
        for (Sheet sheet : sheets) {
            if (width - sheet.used >= row.height) {
                sheet.used += row.height;
                sheet.rows.add(row);
                return row;
            }
        }
        Sheet sheet = new Sheet();
        sheet.used = row.height;
        sheet.rows.add(row);
        sheets.add(sheet);
        return row;
    }

    private static long cuts(List<Sheet> sheets) {
        long cuts = 0;
        for (Sheet sheet : sheets) {
            for (Row row : sheet.rows) {
                for (int i = 0; i < row.pieces.size(); i++) {
                    Piece piece = row.pieces.get(i);
                    cuts += 2 * piece.longSide() + 2 * piece.shortSide();
                    if (i > 0 && row.pieces.get(i - 1).shortSide() == piece.shortSide()) {
                        cuts -= piece.shortSide();
                    }
                }
            }
        }
        return cuts;
    }

    int batch(int part, int tool, int many) {
        Part p = partOf(part);
        toolOf(tool);
        argument(many >= 1 && many <= 50);
        state(batches.size() < 20);
        Batch b = new Batch();
        b.part = part;
        b.tool = tool;
        b.pieces = many;
        b.revision = p.revision;
        b.length = blank(part, tool);
        batches.add(b);
        return batches.size() - 1;
    }

    private Batch batchFor(int batch) {
        index(batch >= 0 && batch < batches.size());
        return batches.get(batch);
    }

    int work(int batch) {
        Batch b = batchFor(batch);
        state(b.state < 2);
        state(b.state == 1 || order(parts.get(b.part), tools.get(b.tool)) != null);
        b.state++;
        return b.state;
    }

    int batchOf(int batch, int what) {
        Batch b = batchFor(batch);
        argument(what >= 0 && what <= 3);
        return new int[] {b.state, b.pieces, b.revision, b.length}[what];
    }

    private void kit(int kit) {
        argument(kit > 0 && kit < 1 << parts.size());
    }

    int kits(int kit) {
        kit(kit);
        int fewest = Integer.MAX_VALUE;
        for (int part = 0; part < parts.size(); part++) {
            if ((kit & 1 << part) != 0) {
                int of = part;
                fewest = Math.min(fewest,
                        batches.stream().filter(b -> b.part == of && b.state == 2).mapToInt(b -> b.pieces).sum());
            }
        }
        return fewest;
    }

    int take(int kit, int many) {
        kit(kit);
        argument(many >= 1 && many <= 50);
        state(kits(kit) >= many);
        int emptied = 0;
        for (int part = 0; part < parts.size(); part++) {
            for (int i = 0; i < many && (kit & 1 << part) != 0; i++) {
                int of = part;
                Batch b = batches.stream().filter(c -> c.part == of && c.state == 2 && c.pieces > 0)
                        .findFirst().orElseThrow();
                b.pieces--;
                emptied += b.pieces == 0 ? 1 : 0;
            }
        }
        return emptied;
    }
}
