import java.util.ArrayList;
import java.util.List;

/** Long runs of adds and removes, each state compared whole with the oracle. */
final class OracleTests {
    private static final Checks CHECKS = new Checks("OracleTests");
    private static final Draws DRAWS = new Draws();

    private OracleTests() {
    }

    private static int next(int bound) {
        return DRAWS.next(bound);
    }

    /** Which segments a run draws. */
    private interface Kind {
        int[] draw(int i);
    }

    private static int[] onGrid(int size, int step, int shift) {
        return new int[] {shift + step * next(size), shift + step * next(size),
                shift + step * next(size), shift + step * next(size)};
    }

    private static int[] upright(int size) {
        int[] line = onGrid(size, 1, 0);
        int change = next(5);
        if (change < 2) {
            line[2] = line[0];
        } else if (change < 4) {
            line[3] = line[1];
        }
        return line;
    }

    /** Fans from few points, so that faces share their first vertices. */
    private static int[] fan(int size) {
        return new int[] {next(2), next(2), next(size), next(size)};
    }

    /** Three triangles and more, each in another, some of them touching. */
    private static int[] nested(int i) {
        int depth = (i / 3) % 4;
        int low = 10 * depth + next(2) * depth;
        int high = 100 - 11 * depth;
        int[][] ends = {{low, low}, {high, low + 2}, {low + 3, high}};
        int[] a = ends[i % 3];
        int[] b = ends[(i + 1) % 3];
        return next(9) == 0 ? onGrid(101, 1, 0) : new int[] {a[0], a[1], b[0], b[1]};
    }

    /** Small squares and triangles on lattice places inside a frame. */
    private static int[] islands(int i) {
        int[][] frame = {{0, 0, 100, 0}, {100, 0, 100, 100}, {100, 100, 0, 100}, {0, 100, 0, 0}};
        if (i < 4) {
            return frame[i];
        }
        int x = 10 + 10 * next(4);
        int y = 10 + 10 * next(3);
        int[][] way = {{0, 0, 20, 10}, {20, 10, 0, 20}, {0, 20, 0, 0}, {0, 10, 10, 10}, {5, 0, 5, 30}};
        int[] w = way[next(way.length)];
        return new int[] {x + w[0], y + w[1], x + w[2], y + w[3]};
    }

    public static void main(String[] args) {
        everyPair(4);
        run("tiny grid", 60, i -> onGrid(3, 1, 0));
        run("small grid", 60, i -> onGrid(5, 1, 0));
        run("grid", 60, i -> onGrid(8, 1, 0));
        run("coarse grid", 40, i -> onGrid(5, 25, 0));
        run("whole square", 40, i -> onGrid(101, 1, 0));
        run("upper corner", 30, i -> onGrid(4, 3, 91));
        run("vertical and level", 60, i -> upright(6));
        run("fans", 60, i -> fan(7));
        run("nested", 40, OracleTests::nested);
        run("islands", 60, OracleTests::islands);
        run("long lines", 30, i -> new int[] {next(12), next(101), 88 + next(13), next(101)});
        CHECKS.finish();
    }

    /** Every two segments of a small grid, in both orders and with their ends in both orders. */
    private static void everyPair(int size) {
        int ends = size * size;
        for (int i = 0; i < ends * ends * ends * ends; i++) {
            int[] p = {i % size, i / size % size, i / ends % size, i / ends / size % size};
            int j = i / ends / ends;
            int[] q = {j % size, j / size % size, j / ends % size, j / ends / size};
            if ((p[0] != p[2] || p[1] != p[3]) && (q[0] != q[2] || q[1] != q[3])) {
                pair(p, q);
            }
        }
    }

    private static void pair(int[] p, int[] q) {
        String name = java.util.Arrays.toString(p) + java.util.Arrays.toString(q);
        SegmentMap map = new SegmentMap();
        add(map, p);
        if (Oracle.overlaps(p, q)) {
            CHECKS.notNow(map, name, () -> add(map, q));
        } else {
            add(map, q);
            CHECKS.same(name, Picture.of(map), new Oracle(List.of(p, q)).picture());
        }
    }

    private static void run(String name, int runs, Kind kind) {
        for (int r = 0; r < runs; r++) {
            SegmentMap map = new SegmentMap();
            List<int[]> lines = new ArrayList<>();
            for (int i = 0; i < 40; i++) {
                change(name + " " + r + "." + i, map, lines, kind.draw(i));
                if (lines.size() == 12 && r % 3 != 0) {
                    break;
                }
            }
            compare(name + " " + r, map, lines);
        }
    }

    private static void change(String name, SegmentMap map, List<int[]> lines, int[] line) {
        if (!lines.isEmpty() && next(5) == 0) {
            int gone = next(lines.size());
            lines.remove(gone);
            CHECKS.same(name + " remove", map.remove(gone), lines.size());
        } else if (line[0] == line[2] && line[1] == line[3]) {
            CHECKS.outOfRange(map, name + " add a point", () -> add(map, line));
        } else if (lines.size() == 12 || lines.stream().anyMatch(l -> Oracle.overlaps(l, line))) {
            CHECKS.notNow(map, name + " add", () -> add(map, line));
        } else {
            CHECKS.same(name + " add", add(map, line), lines.size());
            lines.add(line);
        }
        if (next(6) == 0) {
            CHECKS.same(name, Picture.of(map), new Oracle(lines).picture());
        }
    }

    private static int add(SegmentMap map, int[] line) {
        return map.add(line[0], line[1], line[2], line[3]);
    }

    private static void compare(String name, SegmentMap map, List<int[]> lines) {
        Oracle due = new Oracle(lines);
        CHECKS.same(name + " picture", Picture.of(map), due.picture());
        CHECKS.same(name + " vertices", map.vertices(), due.vertices());
        CHECKS.same(name + " edges", map.edges(), due.edges());
        CHECKS.same(name + " faces", map.faces(), due.faces());
        // Euler's rule, for a map of any number of components.
        CHECKS.same(name + " faces by Euler", map.faces(),
                map.edges() - map.vertices() + map.components() + 1);
        for (int i = 0; i < 120; i++) {
            int x = i < 60 ? next(12) : next(101);
            int y = i < 60 ? next(12) : next(101);
            CHECKS.same(name + " faceAt " + x + " " + y, map.faceAt(x, y), due.faceAt(x, y));
        }
        for (int i = 0; i < 20; i++) {
            int x = i < 10 ? i : next(101);
            List<Integer> row = due.crossingsAt(x);
            CHECKS.same(name + " crossing " + x, map.crossing(x), row.size());
            for (int place = 0; place < row.size(); place++) {
                CHECKS.same(name + " crossingAt " + x + " " + place, map.crossingAt(x, place),
                        row.get(place));
            }
            CHECKS.noSuch(map, name + " crossingAt behind", () -> map.crossingAt(x, row.size()));
        }
    }
}
