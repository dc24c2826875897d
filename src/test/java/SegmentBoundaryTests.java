import java.util.List;

/** The document's edges of what can be added and removed, and of which segments meet. */
final class SegmentBoundaryTests {
    private static final Checks CHECKS = new Checks("SegmentBoundaryTests");
    private static final String NOTHING = "segments 0\ncomponents 0\nface 0: sides 0, first vertex -1\n";

    private SegmentBoundaryTests() {
    }

    public static void main(String[] args) {
        noSegments();
        filledAgain();
        oneSegment();
        twelfthAndThirteenth();
        twelfthInAnyWay();
        bothEndsTheSame();
        everyTwoEnds();
        noCommonPoint();
        oneCommonPoint();
        manyCommonPoints();
        commonWithSeveral();
        removedNumbers();
        removedEnds();
        CHECKS.finish();
    }

    // ---- none, one, twelve

    /** Every method without an exception; ArgumentTests asks the others of the same maps. */
    private static void noSegments() {
        SegmentMap fromTheFront = Maps.full();
        SegmentMap fromTheBack = Maps.full();
        for (int left = 11; left >= 0; left--) {
            CHECKS.same("3 from the front", fromTheFront.remove(0), left);
            CHECKS.same("3 from the back", fromTheBack.remove(left), left);
        }
        SegmentMap one = Maps.of(0, 0, 100, 100);
        CHECKS.same("3 the only one", one.remove(0), 0);
        for (SegmentMap m : List.of(new SegmentMap(), one, fromTheFront, fromTheBack,
                Maps.emptied(Maps.greatest()), Maps.emptied(Maps.frame()))) {
            CHECKS.same("1 nothing", Picture.of(m), NOTHING);
            CHECKS.same("4 none", m.segments(), 0);
            CHECKS.same("6 none", m.vertices(), 0);
            CHECKS.same("7 none", m.edges(), 0);
            CHECKS.same("8 none", m.faces(), 1);
            CHECKS.same("9 none", m.components(), 0);
            CHECKS.same("20 none", m.sides(0), 0);
            CHECKS.same("21 none", m.firstVertex(0), SegmentMap.NONE);
            for (int x = 0; x <= 100; x++) {
                CHECKS.same("22 none", Rows.below(101, column(m, x)), Rows.of(new int[101]));
                CHECKS.same("23 none", m.crossing(x), 0);
            }
        }
    }

    private static java.util.function.IntUnaryOperator column(SegmentMap m, int x) {
        return y -> m.faceAt(x, y);
    }

    private static void filledAgain() {
        SegmentMap m = Maps.emptied(Maps.star());
        CHECKS.same("2 the first again", m.add(0, 0, 100, 100), 0);
        CHECKS.same("2 the second again", m.add(100, 0, 0, 100), 1);
        CHECKS.same("2 as on a new one", Picture.of(m), Picture.of(Maps.of(0, 0, 100, 100, 100, 0, 0, 100)));
    }

    private static void oneSegment() {
        int[][] lines = {{0, 0, 100, 100}, {0, 100, 100, 0}, {0, 0, 0, 100}, {100, 0, 100, 100}, {0, 0, 100, 0},
            {0, 100, 100, 100}, {0, 0, 0, 1}, {0, 0, 1, 0}, {0, 0, 1, 1}, {99, 100, 100, 100},
            {100, 99, 100, 100}, {99, 99, 100, 100}, {99, 1, 100, 0}, {50, 50, 50, 51}, {7, 3, 90, 4}};
        for (int[] l : lines) {
            for (SegmentMap m : List.of(Maps.of(l), Maps.of(l[2], l[3], l[0], l[1]))) {
                CHECKS.same("6 of one", m.vertices(), 2);
                CHECKS.same("7 of one", m.edges(), 1);
                CHECKS.same("8 of one", m.faces(), 1);
                CHECKS.same("9 of one", m.components(), 1);
                CHECKS.same("5 with itself", m.meet(0, 0), true);
                CHECKS.same("10 of one", Rows.vertices(m, m::xNumerator), Rows.of(l[0], l[2]));
                CHECKS.same("11 of one", Rows.vertices(m, m::xDenominator), Rows.of(1, 1));
                CHECKS.same("12 of one", Rows.vertices(m, m::yNumerator), Rows.of(l[1], l[3]));
                CHECKS.same("13 of one", Rows.vertices(m, m::yDenominator), Rows.of(1, 1));
                CHECKS.same("14 of one", Rows.vertices(m, m::degree), Rows.of(1, 1));
                CHECKS.same("15 to 19 of one", Rows.of(m.segmentOf(0), m.from(0), m.to(0), m.leftOf(0),
                        m.rightOf(0)), Rows.of(0, 0, 1, 0, 0));
                CHECKS.same("20 both sides count", m.sides(0), 2);
                CHECKS.same("21 of one", m.firstVertex(0), SegmentMap.NONE);
                CHECKS.same("22 the ends are points of it", Rows.of(m.faceAt(l[0], l[1]), m.faceAt(l[2], l[3])),
                        Rows.of(-1, -1));
                for (int x = 0; x <= 100; x++) {
                    CHECKS.same("23 of one", m.crossing(x), l[0] != l[2] && l[0] <= x && x <= l[2] ? 1 : 0);
                }
            }
        }
    }

    private static void twelfthAndThirteenth() {
        for (int[] ends : List.of(Maps.fullEnds(), Maps.greatestEnds())) {
            SegmentMap m = new SegmentMap();
            for (int i = 0; i < 12; i++) {
                CHECKS.same("2 the number", m.add(ends[4 * i], ends[4 * i + 1], ends[4 * i + 2], ends[4 * i + 3]), i);
                CHECKS.same("4 so many", m.segments(), i + 1);
            }
            refuseAll(m, "a 13th");
            for (int gone : new int[] {0, 5, 11}) {
                CHECKS.same("3 eleven are left", m.remove(gone), 11);
                CHECKS.same("2 a 12th in its place", m.add(99 - gone, 100, 100, 99 - gone), 11);
                refuseAll(m, "a 13th after " + gone);
                CHECKS.same("4 twelve", m.segments(), 12);
            }
        }
    }

    /** One apart, one that crosses all, one from end to end, one along another. */
    private static void refuseAll(SegmentMap m, String what) {
        CHECKS.notNow(m, "2 " + what + " apart", () -> m.add(0, 100, 1, 100));
        CHECKS.notNow(m, "2 " + what + " across", () -> m.add(50, 0, 50, 100));
        CHECKS.notNow(m, "2 " + what + " of the frame", () -> m.add(0, 0, 0, 100));
        CHECKS.notNow(m, "2 " + what + " along the last", () -> m.add(99, 100, 100, 99));
        CHECKS.notNow(m, "2 " + what + " diagonal", () -> m.add(100, 100, 0, 0));
    }

    /** Twelve apart, in a row, round a square, and with one end in common. */
    private static void twelfthInAnyWay() {
        SegmentMap row = new SegmentMap();
        SegmentMap fan = new SegmentMap();
        SegmentMap upright = new SegmentMap();
        for (int i = 0; i < 12; i++) {
            CHECKS.same("2 in a row", row.add(8 * i, 0, 8 * i + 8, 0), i);
            CHECKS.same("2 in a fan", fan.add(100, 100, 8 * i, 0), i);
            CHECKS.same("2 upright", upright.add(9 * i, 0, 9 * i, 100), i);
        }
        for (SegmentMap m : List.of(row, fan, upright, Maps.star())) {
            CHECKS.same("4 twelve", m.segments(), 12);
            CHECKS.notNow(m, "2 a 13th", () -> m.add(97, 0, 98, 1));
            CHECKS.notNow(m, "2 a 13th in the row", () -> m.add(96, 0, 100, 0));
        }
        CHECKS.same("6 to 9 of a row", Rows.of(row.vertices(), row.edges(), row.faces(), row.components()),
                Rows.of(13, 12, 1, 1));
        CHECKS.same("6 to 9 of a fan", Rows.of(fan.vertices(), fan.edges(), fan.faces(), fan.components()),
                Rows.of(13, 12, 1, 1));
        CHECKS.same("6 to 9 of uprights", Rows.of(upright.vertices(), upright.edges(), upright.faces(),
                upright.components()), Rows.of(24, 12, 1, 12));
    }

    // ---- what the ends may be

    private static void bothEndsTheSame() {
        for (SegmentMap m : List.of(new SegmentMap(), Maps.emptied(Maps.cross()), Maps.cross(), Maps.frame(),
                Maps.full(), Maps.star())) {
            for (int x : new int[] {0, 1, 5, 10, 50, 100}) {
                for (int y : new int[] {0, 1, 5, 10, 50, 100}) {
                    CHECKS.outOfRange(m, "2 a point " + x + " " + y, () -> m.add(x, y, x, y));
                }
            }
        }
    }

    /** Only ends that are the same in both coordinates are refused. */
    private static void everyTwoEnds() {
        int[] at = {0, 1, 50, 99, 100};
        for (int i = 0; i < 625; i++) {
            int[] l = {at[i % 5], at[i / 5 % 5], at[i / 25 % 5], at[i / 125]};
            SegmentMap m = new SegmentMap();
            if (l[0] == l[2] && l[1] == l[3]) {
                CHECKS.outOfRange(m, "2 the same end", () -> m.add(l[0], l[1], l[2], l[3]));
            } else {
                CHECKS.same("2 two ends", m.add(l[0], l[1], l[2], l[3]), 0);
                CHECKS.same("2 two ends, all", Picture.of(m), Oracle.of(l).picture());
            }
        }
    }

    // ---- common points

    /** One of the eight ways to lay the square on itself. */
    private static int[] laid(int way, int[] line) {
        int[] laid = line.clone();
        for (int i = 0; i < 4; i += 2) {
            int x = (way & 2) == 0 ? line[i] : 100 - line[i];
            int y = (way & 4) == 0 ? line[i + 1] : 100 - line[i + 1];
            laid[i] = (way & 1) == 0 ? x : y;
            laid[i + 1] = (way & 1) == 0 ? y : x;
        }
        return laid;
    }

    private static int[] turned(int[] l) {
        return new int[] {l[2], l[3], l[0], l[1]};
    }

    /** What is to be seen of two segments. */
    private interface Pair {
        void check(String name, int[] first, int[] second);
    }

    /** Each row is two segments; they come in either order, each with its ends in either order. */
    private static void inAllWays(int[][] rows, Pair pair) {
        for (int[] row : rows) {
            for (int way = 0; way < 8; way++) {
                int[] p = laid(way, java.util.Arrays.copyOf(row, 4));
                int[] q = laid(way, java.util.Arrays.copyOfRange(row, 4, 8));
                String name = java.util.Arrays.toString(p) + java.util.Arrays.toString(q);
                for (int[] first : List.of(p, turned(p))) {
                    for (int[] second : List.of(q, turned(q))) {
                        pair.check(name, first, second);
                        pair.check(name + " in the other order", second, first);
                    }
                }
            }
        }
    }

    private static void bothStand(String name, int[] p, int[] q, String counts) {
        SegmentMap m = Maps.of(p);
        CHECKS.same("2 " + name, m.add(q[0], q[1], q[2], q[3]), 1);
        boolean meet = !counts.equals(Rows.of(4, 2, 1, 2));
        CHECKS.same("5 " + name, m.meet(0, 1), meet);
        CHECKS.same("5 turned " + name, m.meet(1, 0), meet);
        CHECKS.same("5 itself " + name, m.meet(0, 0) && m.meet(1, 1), true);
        CHECKS.same("6 to 9 " + name, Rows.of(m.vertices(), m.edges(), m.faces(), m.components()), counts);
    }

    private static void noCommonPoint() {
        inAllWays(new int[][] {
            // On one line with a gap, the least that there can be.
            {0, 0, 49, 0, 50, 0, 100, 0}, {0, 0, 1, 1, 2, 2, 3, 3}, {0, 0, 98, 98, 99, 99, 100, 100},
            {0, 0, 2, 1, 4, 2, 100, 50}, {0, 1, 3, 2, 6, 3, 9, 4},
            // Parallel, as near as can be.
            {0, 0, 100, 0, 0, 1, 100, 1}, {0, 0, 99, 99, 0, 1, 99, 100}, {0, 0, 100, 99, 0, 1, 100, 100},
            // One ends just before the other one.
            {0, 0, 49, 49, 0, 100, 100, 0}, {0, 0, 100, 99, 99, 99, 99, 100}, {0, 0, 100, 99, 99, 98, 99, 0},
            {0, 0, 100, 0, 50, 1, 50, 100}, {0, 0, 100, 0, 0, 1, 0, 100}, {0, 0, 99, 0, 100, 0, 100, 100},
            // On different lines that meet far from one of them, or from both.
            {0, 0, 100, 99, 99, 98, 100, 98}, {0, 0, 1, 1, 99, 0, 100, 0}, {0, 0, 1, 1, 99, 0, 100, 1}},
            (name, p, q) -> bothStand(name, p, q, Rows.of(4, 2, 1, 2)));
    }

    private static void oneCommonPoint() {
        // Across each other, at a whole place or not.
        inAllWays(new int[][] {{0, 0, 100, 100, 0, 100, 100, 0}, {0, 0, 100, 99, 0, 1, 1, 0},
            {0, 0, 100, 99, 99, 98, 99, 99}, {0, 0, 100, 99, 0, 100, 99, 0}, {0, 50, 100, 50, 50, 0, 50, 100},
            {0, 0, 100, 99, 1, 0, 100, 100}, {0, 1, 100, 1, 0, 0, 100, 2}},
            (name, p, q) -> bothStand(name, p, q, Rows.of(5, 4, 1, 1)));
        // An end of the one within the other.
        inAllWays(new int[][] {{0, 0, 100, 0, 50, 0, 50, 100}, {0, 0, 100, 100, 50, 50, 100, 0},
            {0, 0, 100, 0, 1, 0, 0, 1}, {0, 0, 100, 0, 99, 0, 100, 1}, {0, 0, 2, 2, 1, 1, 2, 1},
            {0, 0, 100, 50, 98, 49, 100, 0}, {0, 0, 0, 100, 0, 99, 1, 100}},
            (name, p, q) -> bothStand(name, p, q, Rows.of(4, 3, 1, 1)));
        // An end in common, on one line or at an angle, however small.
        inAllWays(new int[][] {{0, 0, 50, 0, 50, 0, 100, 0}, {0, 0, 1, 1, 1, 1, 2, 2},
            {98, 98, 99, 99, 99, 99, 100, 100}, {0, 0, 4, 2, 4, 2, 6, 3}, {0, 0, 100, 0, 0, 0, 0, 100},
            {0, 0, 100, 99, 0, 0, 99, 98}, {0, 0, 100, 100, 0, 0, 100, 99}, {0, 0, 100, 0, 0, 0, 100, 1},
            {0, 0, 50, 50, 50, 50, 100, 99}, {0, 0, 100, 0, 100, 0, 100, 100}, {0, 0, 1, 50, 1, 50, 2, 100}},
            (name, p, q) -> bothStand(name, p, q, Rows.of(3, 2, 1, 1)));
    }

    private static void manyCommonPoints() {
        inAllWays(new int[][] {
            // The same.
            {0, 0, 100, 0, 0, 0, 100, 0}, {0, 0, 100, 100, 0, 0, 100, 100}, {0, 0, 1, 0, 0, 0, 1, 0},
            {0, 0, 100, 99, 0, 0, 100, 99}, {0, 0, 1, 100, 0, 0, 1, 100}, {0, 0, 1, 99, 0, 0, 1, 99},
            // One in the other, with an end in common or without.
            {0, 0, 100, 0, 99, 0, 100, 0}, {0, 0, 100, 0, 0, 0, 1, 0}, {0, 0, 100, 0, 1, 0, 99, 0},
            {0, 0, 100, 0, 50, 0, 51, 0}, {0, 0, 100, 100, 99, 99, 100, 100}, {0, 0, 100, 50, 2, 1, 4, 2},
            {0, 0, 2, 100, 1, 50, 2, 100},
            // Each goes on beyond the other.
            {0, 0, 51, 0, 50, 0, 100, 0}, {0, 0, 51, 51, 50, 50, 100, 100}, {0, 0, 4, 2, 2, 1, 6, 3},
            {0, 0, 99, 0, 1, 0, 100, 0}, {0, 50, 51, 50, 50, 50, 100, 50}},
            (name, p, q) -> {
                SegmentMap m = Maps.of(p);
                CHECKS.notNow(m, "2 " + name, () -> m.add(q[0], q[1], q[2], q[3]));
                CHECKS.same("4 " + name, m.segments(), 1);
            });
    }

    /** Each of the others is looked at: the first, one between, the last. */
    private static void commonWithSeveral() {
        SegmentMap m = new SegmentMap();
        for (int i = 0; i < 11; i++) {
            m.add(0, 10 * i, 90, 10 * i);
        }
        for (int i = 0; i < 11; i++) {
            int y = 10 * i;
            CHECKS.notNow(m, "2 along " + i, () -> m.add(89, y, 100, y));
        }
        CHECKS.same("2 one point of each of them", m.add(90, 0, 90, 100), 11);
        CHECKS.same("5 with each of them", Rows.below(12, s -> m.meet(11, s) ? 1 : 0),
                Rows.of(1, 1, 1, 1, 1, 1, 1, 1, 1, 1, 1, 1));
        SegmentMap gone = Maps.of(0, 0, 50, 50, 60, 0, 60, 50);
        gone.remove(0);
        CHECKS.same("2 along one that was removed", gone.add(0, 0, 100, 100), 1);
        CHECKS.notNow(gone, "2 along one whose number has changed", () -> gone.add(60, 0, 60, 1));
    }

    // ---- removing

    /** After each removal all is as if the segment had never been added. */
    private static void removedNumbers() {
        for (int[] ends : List.of(Maps.fullEnds(), Maps.greatestEnds())) {
            for (int gone = 0; gone < 12; gone++) {
                SegmentMap m = Maps.of(ends);
                CHECKS.same("3 left without " + gone, m.remove(gone), 11);
                int[] rest = new int[44];
                System.arraycopy(ends, 0, rest, 0, 4 * gone);
                System.arraycopy(ends, 4 * gone + 4, rest, 4 * gone, 44 - 4 * gone);
                CHECKS.same("3 all without " + gone, Picture.whole(m), Picture.whole(Maps.of(rest)));
                CHECKS.noSuch(m, "3 the number that was the last", () -> m.remove(11));
                CHECKS.noSuch(m, "5 the number that was the last", () -> m.meet(11, 0));
            }
        }
    }

    /** The numbers of those behind it are 1 less, the others stay. */
    private static void removedEnds() {
        int[] ends = {0, 0, 10, 0, 0, 10, 10, 10, 0, 20, 10, 20, 0, 30, 10, 30};
        int[][] due = {{-2, 0, 1, 2}, {0, -2, 1, 2}, {0, 1, -2, 2}, {0, 1, 2, -2}};
        for (int gone = 0; gone < 4; gone++) {
            SegmentMap m = Maps.of(ends);
            m.remove(gone);
            int place = 0;
            for (int old = 0; old < 4; old++) {
                if (due[gone][old] >= 0) {
                    CHECKS.same("3 number of " + old + " without " + gone, m.crossingAt(5, place), due[gone][old]);
                    CHECKS.same("15 number of " + old + " without " + gone, m.segmentOf(due[gone][old]),
                            due[gone][old]);
                    place++;
                }
                CHECKS.same("22 " + old + " without " + gone, m.faceAt(5, 10 * old), due[gone][old] >= 0 ? -1 : 0);
            }
            CHECKS.same("2 the next number", m.add(0, 40, 10, 40), 3);
        }
    }
}
