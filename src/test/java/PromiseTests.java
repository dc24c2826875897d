/** A function for each promise of the document, with answers worked out by hand. */
final class PromiseTests {
    private static final Checks CHECKS = new Checks("PromiseTests");
    private static final int[] OUTSIDE = {-1, 101, Integer.MIN_VALUE, Integer.MAX_VALUE};

    private PromiseTests() {
    }

    public static void main(String[] args) {
        promise1();
        promise2Numbers();
        promise2Arguments();
        promise2Overlaps();
        promise2Full();
        promise3();
        promise4();
        promise5();
        promise6();
        promise7();
        promise8();
        promise9();
        promises10To13();
        promise14();
        promises15To17();
        promises18And19();
        promise20();
        promise21();
        promise21SharedFirstVertex();
        promise21Often();
        promise22();
        promise22Holes();
        promise23();
        promise24();
        greatest();
        CHECKS.finish();
    }

    /** A call with one number of a vertex, an edge or the like. */
    private interface Asked {
        int of(int number);
    }

    private static void onlyBelow(SegmentMap map, String what, int count, Asked call) {
        for (int wrong : new int[] {-1, count, count + 1, Integer.MIN_VALUE, Integer.MAX_VALUE}) {
            CHECKS.noSuch(map, what + " " + wrong, () -> call.of(wrong));
        }
    }

    // ---- segments

    private static void promise1() {
        CHECKS.same("1 NONE", SegmentMap.NONE, -1);
        SegmentMap fresh = new SegmentMap();
        CHECKS.same("1 all", Picture.of(fresh),
                "segments 0\ncomponents 0\nface 0: sides 0, first vertex -1\n");
        CHECKS.same("1 faceAt", fresh.faceAt(0, 0), 0);
        CHECKS.same("1 faceAt", fresh.faceAt(100, 100), 0);
        for (int x = 0; x <= 100; x++) {
            CHECKS.same("1 crossing", fresh.crossing(x), 0);
        }
        SegmentMap other = new SegmentMap();
        other.add(0, 0, 1, 1);
        CHECKS.same("1 objects are apart", fresh.segments(), 0);
        CHECKS.same("1 objects are apart", fresh.vertices(), 0);
    }

    private static void promise2Numbers() {
        SegmentMap m = new SegmentMap();
        CHECKS.same("2 first", m.add(0, 0, 100, 100), 0);
        CHECKS.same("2 second", m.add(100, 0, 0, 100), 1);
        CHECKS.same("2 vertical at the edge", m.add(100, 100, 100, 0), 2);
        CHECKS.same("2 level at the edge", m.add(0, 0, 100, 0), 3);
        CHECKS.same("2 shortest", m.add(50, 51, 50, 52), 4);
        m.remove(2);
        CHECKS.same("2 after a removal", m.add(0, 100, 100, 100), 4);
        CHECKS.same("2 counted", m.segments(), 5);
    }

    private static void promise2Arguments() {
        SegmentMap m = Maps.cross();
        for (int c : OUTSIDE) {
            CHECKS.outOfRange(m, "2 x1 " + c, () -> m.add(c, 20, 30, 40));
            CHECKS.outOfRange(m, "2 y1 " + c, () -> m.add(20, c, 30, 40));
            CHECKS.outOfRange(m, "2 x2 " + c, () -> m.add(20, 30, c, 40));
            CHECKS.outOfRange(m, "2 y2 " + c, () -> m.add(20, 30, 40, c));
            CHECKS.outOfRange(m, "2 all " + c, () -> m.add(c, c, c, c));
        }
        CHECKS.outOfRange(m, "2 a point", () -> m.add(20, 30, 20, 30));
        CHECKS.outOfRange(m, "2 a point at 0", () -> m.add(0, 0, 0, 0));
        CHECKS.outOfRange(m, "2 a point at 100", () -> m.add(100, 100, 100, 100));
        CHECKS.outOfRange(m, "2 a point on a segment", () -> m.add(5, 5, 5, 5));
    }

    private static void promise2Overlaps() {
        int[][] stretches = {{2, 4, 6, 12}, {2, 3, 5, 9}, {2, 3, 6, 5}, {2, 5, 2, 7}, {2, 5, 2, 6},
            {2, 5, 3, 5}, {2, 5, 3, 4}, {2, 9, 6, 8}, {2, 9, 5, 0}};
        for (int[] s : stretches) {
            int dx = s[2] - s[0];
            int dy = s[3] - s[1];
            SegmentMap m = new SegmentMap();
            int x = 40;
            int y = 40;
            m.add(x, y, x + 2 * dx, y + 2 * dy);
            CHECKS.notNow(m, "2 the same", () -> m.add(x, y, x + 2 * dx, y + 2 * dy));
            CHECKS.notNow(m, "2 turned", () -> m.add(x + 2 * dx, y + 2 * dy, x, y));
            CHECKS.notNow(m, "2 within", () -> m.add(x, y, x + dx, y + dy));
            CHECKS.notNow(m, "2 to its end", () -> m.add(x + 2 * dx, y + 2 * dy, x + dx, y + dy));
            CHECKS.notNow(m, "2 round it", () -> m.add(x - dx, y - dy, x + 3 * dx, y + 3 * dy));
            CHECKS.notNow(m, "2 from one end on", () -> m.add(x, y, x + 3 * dx, y + 3 * dy));
            CHECKS.notNow(m, "2 over one end", () -> m.add(x - dx, y - dy, x + dx, y + dy));
            CHECKS.notNow(m, "2 over the other", () -> m.add(x + 3 * dx, y + 3 * dy, x + dx, y + dy));
            CHECKS.same("2 beside it", m.add(x + 1, y + 9, x + 1 + dx, y + 9 + dy), 1);
            CHECKS.same("2 from its end on", m.add(x + 3 * dx, y + 3 * dy, x + 2 * dx, y + 2 * dy), 2);
            CHECKS.same("2 up to its end", m.add(x - dx, y - dy, x, y), 3);
            CHECKS.same("2 behind a gap", m.add(x - 2 * dx, y - 2 * dy, x - 3 * dx, y - 3 * dy), 4);
            CHECKS.notNow(m, "2 over the gap", () -> m.add(x - 3 * dx, y - 3 * dy, x - dx, y - dy));
            CHECKS.same("2 into the gap", m.add(x - dx, y - dy, x - 2 * dx, y - 2 * dy), 5);
        }
        SegmentMap m = Maps.of(0, 0, 100, 99);
        CHECKS.same("2 all but the same slope", m.add(0, 0, 99, 98), 1);
        CHECKS.notNow(m, "2 the second one's", () -> m.add(99, 98, 0, 0));
    }

    private static void promise2Full() {
        SegmentMap m = Maps.full();
        CHECKS.same("2 twelve", m.segments(), 12);
        CHECKS.notNow(m, "2 a 13th", () -> m.add(0, 98, 100, 99));
        CHECKS.notNow(m, "2 a 13th that overlaps", () -> m.add(0, 0, 100, 1));
        CHECKS.outOfRange(m, "2 a 13th outside", () -> m.add(0, 98, 101, 99));
        CHECKS.outOfRange(m, "2 a 13th point", () -> m.add(3, 98, 3, 98));
        m.remove(11);
        CHECKS.same("2 a 12th", m.add(0, 98, 100, 99), 11);
        CHECKS.notNow(m, "2 a 13th again", () -> m.add(0, 90, 100, 91));
    }

    private static void promise3() {
        SegmentMap m = Maps.of(0, 0, 10, 0, 0, 1, 10, 2, 0, 3, 10, 5, 0, 6, 10, 9);
        onlyBelow(m, "3 remove", 4, m::remove);
        CHECKS.same("3 left", m.remove(1), 3);
        // Those behind it have moved up.
        CHECKS.same("3 order", Rows.of(m.crossingAt(5, 0), m.crossingAt(5, 1), m.crossingAt(5, 2)),
                Rows.of(0, 1, 2));
        CHECKS.same("3 the new 1", m.faceAt(5, 4), -1);
        CHECKS.same("3 the old 1", m.faceAt(10, 2), 0);
        CHECKS.same("3 first", m.remove(0), 2);
        CHECKS.same("3 last", m.remove(1), 1);
        onlyBelow(m, "3 remove", 1, m::remove);
        CHECKS.same("3 only", m.remove(0), 0);
        onlyBelow(m, "3 remove", 0, m::remove);
        CHECKS.same("3 as new", Picture.of(m), Picture.of(new SegmentMap()));
        SegmentMap t = Maps.triangle();
        t.remove(1);
        CHECKS.same("3 a face opens", t.faces(), 1);
        CHECKS.same("3 the rest", Picture.of(t), Picture.of(Maps.of(0, 0, 20, 0, 10, 20, 0, 0)));
    }

    private static void promise4() {
        SegmentMap m = new SegmentMap();
        for (int i = 0; i < 12; i++) {
            CHECKS.same("4 rising", m.segments(), i);
            m.add(i, 0, 50, 100);
        }
        CHECKS.same("4 twelve", m.segments(), 12);
        for (int i = 11; i >= 0; i--) {
            m.remove(i / 2);
            CHECKS.same("4 falling", m.segments(), i);
        }
    }

    private static void promise5() {
        SegmentMap m = Maps.of(10, 10, 30, 30, 10, 30, 30, 10, 30, 30, 40, 40, 41, 41, 50, 50,
                20, 20, 20, 0, 10, 11, 30, 31, 20, 21, 20, 40, 30, 30, 60, 30, 5, 0, 5, 9, 5, 9, 5, 20);
        int[][] due = {{0, 1, 2, 4, 7}, {1, 4, 5}, {2, 7}, {3}, {4}, {5, 6}, {6}, {7}, {8, 9}, {9}};
        for (int s = 0; s < 10; s++) {
            for (int t = s; t < 10; t++) {
                int other = t;
                boolean meet = java.util.Arrays.stream(due[s]).anyMatch(i -> i == other);
                CHECKS.same("5 meet " + s + " " + t, m.meet(s, t), meet);
                CHECKS.same("5 meet " + t + " " + s, m.meet(t, s), meet);
            }
        }
        onlyBelow(m, "5 segment", 10, s -> m.meet(s, 0) ? 1 : 0);
        onlyBelow(m, "5 other", 10, s -> m.meet(9, s) ? 1 : 0);
        onlyBelow(m, "5 both", 10, s -> m.meet(s, s) ? 1 : 0);
        SegmentMap none = new SegmentMap();
        onlyBelow(none, "5 none", 0, s -> none.meet(s, s) ? 1 : 0);
        // They would meet, were one of them longer by the least.
        SegmentMap near = Maps.of(0, 0, 99, 100, 50, 50, 100, 0, 0, 1, 49, 50);
        CHECKS.same("5 just not", near.meet(0, 1), false);
        CHECKS.same("5 just not", near.meet(1, 2), false);
        CHECKS.same("5 just not", near.meet(0, 2), false);
    }

    // ---- vertices and edges

    private static void promise6() {
        CHECKS.same("6 one segment", Maps.of(3, 4, 3, 9).vertices(), 2);
        CHECKS.same("6 crossing", Maps.cross().vertices(), 5);
        CHECKS.same("6 at an end", Maps.of(0, 0, 10, 10, 10, 10, 20, 0).vertices(), 3);
        CHECKS.same("6 an end between", Maps.of(0, 0, 10, 10, 5, 5, 20, 0).vertices(), 4);
        CHECKS.same("6 in a row", Maps.of(0, 0, 10, 10, 10, 10, 20, 20).vertices(), 3);
        CHECKS.same("6 many at one point",
                Maps.of(0, 0, 10, 10, 0, 10, 10, 0, 5, 0, 5, 10, 0, 5, 10, 5).vertices(), 9);
        CHECKS.same("6 apart", Maps.of(0, 0, 10, 10, 11, 11, 20, 20).vertices(), 4);
    }

    private static void promise7() {
        CHECKS.same("7 one segment", Maps.of(3, 4, 3, 9).edges(), 1);
        CHECKS.same("7 crossing", Maps.cross().edges(), 4);
        CHECKS.same("7 at an end", Maps.of(0, 0, 10, 10, 10, 10, 20, 0).edges(), 2);
        CHECKS.same("7 an end between", Maps.of(0, 0, 10, 10, 5, 5, 20, 0).edges(), 3);
        CHECKS.same("7 many at one point",
                Maps.of(0, 0, 10, 10, 0, 10, 10, 0, 5, 0, 5, 10, 0, 5, 10, 5).edges(), 8);
        CHECKS.same("7 apart", Maps.of(0, 0, 10, 10, 11, 11, 20, 20).edges(), 2);
    }

    private static void promise8() {
        SegmentMap m = Maps.triangle();
        CHECKS.same("8 triangle", m.faces(), 2);
        m.add(10, 20, 10, 5);
        CHECKS.same("8 an end inside divides nothing", m.faces(), 2);
        m.add(10, 0, 10, 5);
        CHECKS.same("8 divided", m.faces(), 3);
        m.add(0, 10, 20, 10);
        CHECKS.same("8 divided again", m.faces(), 5);
        m.add(50, 50, 60, 60);
        CHECKS.same("8 a segment apart", m.faces(), 5);
        m.remove(4);
        CHECKS.same("8 joined", m.faces(), 4);
        m.remove(3);
        CHECKS.same("8 joined again", m.faces(), 3);
    }

    private static void promise9() {
        SegmentMap m = Maps.of(0, 0, 10, 10);
        CHECKS.same("9 one", m.components(), 1);
        m.add(20, 0, 20, 10);
        m.add(30, 0, 40, 0);
        CHECKS.same("9 three", m.components(), 3);
        m.add(10, 10, 20, 5);
        CHECKS.same("9 two joined", m.components(), 2);
        m.add(0, 9, 35, 0);
        CHECKS.same("9 all joined", m.components(), 1);
        m.remove(4);
        m.remove(3);
        CHECKS.same("9 three again", m.components(), 3);
        SegmentMap nested = Maps.triangle();
        nested.add(9, 5, 11, 5);
        CHECKS.same("9 inside a face", nested.components(), 2);
        // The last one joins two that were each joined from the right to the left.
        SegmentMap late = Maps.of(30, 0, 40, 0, 20, 0, 30, 0, 10, 0, 20, 0, 30, 9, 40, 9, 20, 9, 30, 9);
        CHECKS.same("9 two chains", late.components(), 2);
        late.add(40, 0, 40, 9);
        CHECKS.same("9 one chain", late.components(), 1);
    }

    private static void promises10To13() {
        SegmentMap m = Maps.of(0, 10, 10, 0, 0, 3, 10, 4, 0, 0, 10, 10);
        // In lowest terms: 70/11 40/11, 5 5, 10/3 10/3, and the ends.
        CHECKS.same("10", Rows.vertices(m, m::xNumerator), Rows.of(0, 0, 0, 10, 5, 70, 10, 10, 10));
        CHECKS.same("11", Rows.vertices(m, m::xDenominator), Rows.of(1, 1, 1, 3, 1, 11, 1, 1, 1));
        CHECKS.same("12", Rows.vertices(m, m::yNumerator), Rows.of(0, 3, 10, 10, 5, 40, 0, 4, 10));
        CHECKS.same("13", Rows.vertices(m, m::yDenominator), Rows.of(1, 1, 1, 3, 1, 11, 1, 1, 1));
        // The crossing at 50 and 1/3: each coordinate has lowest terms of its own.
        SegmentMap half = Maps.of(0, 0, 3, 2, 0, 1, 1, 0, 50, 0, 50, 100, 49, 0, 52, 1);
        CHECKS.same("10 own terms", Rows.vertices(half, half::xNumerator), Rows.of(0, 0, 3, 1, 3, 49, 50, 50,
                50, 52));
        CHECKS.same("11 own terms", Rows.vertices(half, half::xDenominator), Rows.of(1, 1, 5, 1, 1, 1, 1, 1,
                1, 1));
        CHECKS.same("12 own terms", Rows.vertices(half, half::yNumerator), Rows.of(0, 1, 2, 0, 2, 0, 0, 1,
                100, 1));
        CHECKS.same("13 own terms", Rows.vertices(half, half::yDenominator), Rows.of(1, 1, 5, 1, 1, 1, 1, 3,
                1, 1));
        SegmentMap far = Maps.of(0, 100, 100, 1, 0, 1, 99, 100);
        // 99 x + 100 y = 10000 and y = x + 1: x = 9900/199, y = 10099/199.
        CHECKS.same("10 great", Rows.vertices(far, far::xNumerator), Rows.of(0, 0, 9900, 99, 100));
        CHECKS.same("11 great", Rows.vertices(far, far::xDenominator), Rows.of(1, 1, 199, 1, 1));
        CHECKS.same("12 great", Rows.vertices(far, far::yNumerator), Rows.of(1, 100, 10099, 100, 1));
        CHECKS.same("13 great", Rows.vertices(far, far::yDenominator), Rows.of(1, 1, 199, 1, 1));
        onlyBelow(m, "10", 9, m::xNumerator);
        onlyBelow(m, "11", 9, m::xDenominator);
        onlyBelow(m, "12", 9, m::yNumerator);
        onlyBelow(m, "13", 9, m::yDenominator);
        SegmentMap none = new SegmentMap();
        onlyBelow(none, "10 none", 0, none::xNumerator);
        onlyBelow(none, "11 none", 0, none::xDenominator);
        onlyBelow(none, "12 none", 0, none::yNumerator);
        onlyBelow(none, "13 none", 0, none::yDenominator);
    }

    private static void promise14() {
        SegmentMap m = Maps.of(0, 0, 10, 10, 0, 10, 10, 0, 5, 5, 5, 10, 10, 10, 20, 20);
        // 0 0, 0 10, 5 5, 5 10, 10 0, 10 10, 20 20
        CHECKS.same("14", Rows.vertices(m, m::degree), Rows.of(1, 1, 5, 1, 1, 2, 1));
        onlyBelow(m, "14", 7, m::degree);
        SegmentMap star = Maps.star();
        CHECKS.same("14 all through one point", star.degree(12), 24);
        CHECKS.same("14 its vertices", star.vertices(), 25);
        CHECKS.same("14 its edges", star.edges(), 24);
        CHECKS.same("14 its faces", star.faces(), 1);
        SegmentMap none = new SegmentMap();
        onlyBelow(none, "14 none", 0, none::degree);
    }

    private static void promises15To17() {
        SegmentMap m = Maps.of(0, 10, 10, 0, 10, 10, 0, 0, 5, 9, 5, 2, 20, 3, 12, 3);
        // 0: 0 0, 1: 0 10, 2: 5 2, 3: 5 5, 4: 5 9, 5: 10 0, 6: 10 10, 7: 12 3, 8: 20 3
        CHECKS.same("15", Rows.edges(m, m::segmentOf), Rows.of(0, 0, 1, 1, 2, 2, 3));
        CHECKS.same("16", Rows.edges(m, m::from), Rows.of(1, 3, 0, 3, 2, 3, 7));
        CHECKS.same("17", Rows.edges(m, m::to), Rows.of(3, 5, 3, 6, 3, 4, 8));
        onlyBelow(m, "15", 7, m::segmentOf);
        onlyBelow(m, "16", 7, m::from);
        onlyBelow(m, "17", 7, m::to);
        m.remove(0);
        CHECKS.same("15 after a removal", Rows.edges(m, m::segmentOf), Rows.of(0, 0, 1, 1, 2));
        SegmentMap none = new SegmentMap();
        onlyBelow(none, "15 none", 0, none::segmentOf);
        onlyBelow(none, "16 none", 0, none::from);
        onlyBelow(none, "17 none", 0, none::to);
    }

    // ---- faces

    private static void promises18And19() {
        SegmentMap m = Maps.triangle();
        CHECKS.same("18 triangle", Rows.edges(m, m::leftOf), Rows.of(1, 0, 0));
        CHECKS.same("19 triangle", Rows.edges(m, m::rightOf), Rows.of(0, 1, 1));
        SegmentMap square = Maps.of(10, 10, 10, 20, 20, 20, 10, 20, 20, 20, 20, 10, 20, 10, 10, 10,
                15, 30, 15, 0, 12, 12, 12, 15, 40, 0, 40, 9);
        // The vertical line goes through both level sides; the short ones lie inside and apart.
        CHECKS.same("18 square", Rows.edges(square, square::leftOf),
                Rows.of(0, 0, 0, 2, 1, 2, 0, 1, 0, 1, 0));
        CHECKS.same("19 square", Rows.edges(square, square::rightOf),
                Rows.of(1, 1, 2, 0, 0, 0, 0, 2, 0, 1, 0));
        SegmentMap one = Maps.of(0, 100, 100, 0);
        CHECKS.same("18 the same face", one.leftOf(0), 0);
        CHECKS.same("19 the same face", one.rightOf(0), 0);
        onlyBelow(m, "18", 3, m::leftOf);
        onlyBelow(m, "19", 3, m::rightOf);
        SegmentMap none = new SegmentMap();
        onlyBelow(none, "18 none", 0, none::leftOf);
        onlyBelow(none, "19 none", 0, none::rightOf);
    }

    private static void promise20() {
        SegmentMap m = Maps.triangle();
        CHECKS.same("20 triangle", Rows.faces(m, m::sides), Rows.of(3, 3));
        m.add(10, 20, 10, 5);
        CHECKS.same("20 both sides of one", Rows.faces(m, m::sides), Rows.of(3, 5));
        m.add(8, 3, 12, 3);
        CHECKS.same("20 with an island", Rows.faces(m, m::sides), Rows.of(3, 7));
        m.add(10, 0, 10, 5);
        // The island's middle is a vertex now, and the triangle's lower side has two edges.
        CHECKS.same("20 divided", Rows.faces(m, m::sides), Rows.of(4, 7, 7));
        m.add(50, 50, 50, 60);
        CHECKS.same("20 outside", Rows.faces(m, m::sides), Rows.of(6, 7, 7));
        onlyBelow(m, "20", 3, m::sides);
        SegmentMap none = new SegmentMap();
        CHECKS.same("20 none", none.sides(0), 0);
        onlyBelow(none, "20 none", 1, none::sides);
    }

    private static void promise21() {
        SegmentMap m = Maps.triangle();
        CHECKS.same("21 triangle", Rows.faces(m, m::firstVertex), Rows.of(-1, 0));
        // A triangle in the triangle, and one beside it that begins further left than the inner one.
        for (int[] s : new int[][] {{8, 5, 12, 5}, {12, 5, 10, 9}, {10, 9, 8, 5}, {5, 50, 9, 50},
            {9, 50, 9, 60}, {9, 60, 5, 50}}) {
            m.add(s[0], s[1], s[2], s[3]);
        }
        // 0: 0 0, 1: 5 50, 2: 8 5
        CHECKS.same("21 three", Rows.faces(m, m::firstVertex), Rows.of(-1, 0, 1, 2));
        CHECKS.same("21 the inner one", m.faceAt(10, 6), 3);
        CHECKS.same("21 the one beside", m.faceAt(8, 52), 2);
        onlyBelow(m, "21", 4, m::firstVertex);
        SegmentMap none = new SegmentMap();
        CHECKS.same("21 none", none.firstVertex(0), -1);
        onlyBelow(none, "21 none", 1, none::firstVertex);
        // The vertices below and above its first one do not count: x rises before y does.
        SegmentMap left = Maps.of(10, 50, 50, 0, 50, 0, 90, 50, 90, 50, 50, 100, 50, 100, 10, 50);
        CHECKS.same("21 leftmost", left.firstVertex(1), 0);
        SegmentMap upright = Maps.of(10, 50, 10, 20, 10, 20, 30, 0, 30, 0, 10, 50);
        CHECKS.same("21 lower of two", upright.firstVertex(1), 0);
    }

    private static void promise21SharedFirstVertex() {
        // A fan from 0 50 closed at its right: four faces, from below upward.
        SegmentMap m = Maps.of(0, 50, 0, 100, 0, 50, 40, 100, 0, 50, 40, 50, 0, 50, 40, 0, 0, 50, 10, 0,
                40, 0, 40, 100, 0, 100, 40, 100, 10, 0, 40, 0);
        CHECKS.same("21 fan", Rows.faces(m, m::firstVertex), Rows.of(-1, 0, 0, 0, 0));
        CHECKS.same("21 lowest", m.faceAt(15, 10), 1);
        CHECKS.same("21 second", m.faceAt(30, 30), 2);
        CHECKS.same("21 third", m.faceAt(30, 60), 3);
        CHECKS.same("21 fourth", m.faceAt(10, 90), 4);
        CHECKS.same("21 fan by sides", m.rightOf(0), 4);
        // The order does not come from the segments' numbers.
        SegmentMap turned = Maps.of(10, 0, 40, 0, 40, 0, 0, 50, 0, 50, 10, 0, 0, 50, 0, 100, 0, 50, 40, 100,
                0, 100, 40, 100, 40, 50, 0, 50, 40, 0, 40, 100);
        CHECKS.same("21 turned lowest", turned.faceAt(15, 10), 1);
        CHECKS.same("21 turned third", turned.faceAt(30, 60), 3);
        CHECKS.same("21 turned fourth", turned.faceAt(10, 90), 4);
    }

    private static void promise21Often() {
        // The outer face lies below and above the inner triangle at 0 0: its lowest place is below.
        SegmentMap m = Maps.of(0, 0, 50, 0, 50, 0, 0, 50, 0, 50, 0, 0, 0, 0, 20, 10, 20, 10, 10, 20,
                10, 20, 0, 0);
        CHECKS.same("21 often", Rows.faces(m, m::firstVertex), Rows.of(-1, 0, 0));
        CHECKS.same("21 often below", m.faceAt(20, 2), 1);
        CHECKS.same("21 often above", m.faceAt(2, 20), 1);
        CHECKS.same("21 often between", m.faceAt(10, 10), 2);
        CHECKS.same("21 often sides", Rows.faces(m, m::sides), Rows.of(3, 6, 3));
        // The same with the inner triangle on the lower side: there the inner one is the lowest.
        SegmentMap low = Maps.of(0, 0, 50, 0, 50, 0, 0, 50, 0, 50, 0, 0, 20, 0, 20, 10, 20, 10, 0, 0);
        CHECKS.same("21 inner lowest", low.faceAt(19, 3), 1);
        CHECKS.same("21 outer second", low.faceAt(2, 20), 2);
    }

    private static void promise22() {
        SegmentMap m = Maps.triangle();
        CHECKS.same("22 inside", m.faceAt(10, 10), 1);
        CHECKS.same("22 just inside", m.faceAt(1, 1), 1);
        CHECKS.same("22 just outside", m.faceAt(1, 3), 0);
        CHECKS.same("22 at a vertex", m.faceAt(0, 0), -1);
        CHECKS.same("22 at the top", m.faceAt(10, 20), -1);
        CHECKS.same("22 above the top", m.faceAt(10, 21), 0);
        CHECKS.same("22 on a level side", m.faceAt(7, 0), -1);
        CHECKS.same("22 on a sloping side", m.faceAt(5, 10), -1);
        CHECKS.same("22 level with a side", m.faceAt(21, 0), 0);
        CHECKS.same("22 left of the top", m.faceAt(0, 20), 0);
        CHECKS.same("22 far away", m.faceAt(100, 100), 0);
        SegmentMap upright = Maps.of(20, 10, 20, 30, 30, 30, 20, 30, 30, 30, 30, 10, 30, 10, 20, 10);
        CHECKS.same("22 on a vertical one", upright.faceAt(20, 20), -1);
        CHECKS.same("22 under a vertical one", upright.faceAt(20, 9), 0);
        CHECKS.same("22 over a vertical one", upright.faceAt(20, 31), 0);
        CHECKS.same("22 over its end inside", upright.faceAt(25, 29), 1);
        CHECKS.same("22 right of it", upright.faceAt(31, 20), 0);
        for (int c : OUTSIDE) {
            CHECKS.outOfRange(m, "22 x " + c, () -> m.faceAt(c, 10));
            CHECKS.outOfRange(m, "22 y " + c, () -> m.faceAt(10, c));
            CHECKS.outOfRange(m, "22 both " + c, () -> m.faceAt(c, c));
        }
    }

    private static void promise22Holes() {
        // A vertical one with a free lower end: over it, and under it, is the same face.
        SegmentMap m = Maps.of(0, 0, 100, 0, 100, 0, 100, 100, 100, 100, 0, 100, 0, 100, 0, 0,
                20, 20, 80, 20, 80, 20, 80, 80, 80, 80, 20, 80, 20, 80, 20, 20, 50, 40, 50, 60);
        CHECKS.same("22 between both", m.faceAt(10, 50), 1);
        CHECKS.same("22 over the inner one", m.faceAt(50, 90), 1);
        CHECKS.same("22 in the inner one", m.faceAt(30, 50), 2);
        CHECKS.same("22 on the island", m.faceAt(50, 50), -1);
        CHECKS.same("22 under the island", m.faceAt(50, 30), 2);
        CHECKS.same("22 over the island", m.faceAt(50, 70), 2);
        CHECKS.same("22 on the border of all", m.faceAt(100, 100), -1);
        CHECKS.same("22 sides with holes", Rows.faces(m, m::sides), Rows.of(4, 8, 6));
        // Right over a vertex in which several from the left end: the nearest of them counts.
        SegmentMap wedge = Maps.of(10, 10, 40, 40, 10, 40, 40, 40, 10, 10, 10, 40, 40, 40, 70, 35,
                70, 35, 70, 60, 70, 60, 10, 40);
        CHECKS.same("22 over the point of a wedge", wedge.faceAt(40, 45), 2);
        CHECKS.same("22 under the point of a wedge", wedge.faceAt(40, 39), 0);
        CHECKS.same("22 in the wedge", wedge.faceAt(20, 30), 1);
        SegmentMap turned = Maps.of(10, 40, 40, 40, 10, 10, 40, 40, 10, 10, 10, 40, 40, 40, 70, 35,
                70, 35, 70, 60, 70, 60, 10, 40);
        CHECKS.same("22 over the point of a wedge", turned.faceAt(40, 45), 2);
        CHECKS.same("22 under the point of a wedge", turned.faceAt(40, 39), 0);
    }

    // ---- a vertical line

    private static void promise23() {
        SegmentMap m = Maps.of(10, 0, 30, 20, 30, 20, 10, 40, 30, 0, 30, 100, 20, 50, 40, 50, 10, 60, 10, 70,
                100, 100, 0, 90);
        int[][] due = {{0, 1}, {9, 1}, {10, 3}, {19, 3}, {20, 4}, {30, 4}, {31, 2}, {40, 2}, {41, 1},
            {100, 1}};
        for (int[] d : due) {
            CHECKS.same("23 crossing " + d[0], m.crossing(d[0]), d[1]);
        }
        CHECKS.same("23 only vertical ones", Maps.of(5, 0, 5, 9, 5, 9, 5, 20).crossing(5), 0);
        CHECKS.same("23 twelve", Maps.full().crossing(100), 12);
        for (int c : OUTSIDE) {
            CHECKS.outOfRange(m, "23 x " + c, () -> m.crossing(c));
        }
    }

    private static void promise24() {
        // All but the last three run through 50 50; the vertical one is not counted.
        SegmentMap m = Maps.of(0, 100, 100, 0, 50, 0, 50, 100, 50, 50, 100, 100, 0, 50, 100, 50,
                0, 0, 50, 50, 20, 35, 50, 50, 0, 51, 100, 51, 0, 40, 50, 49, 50, 51, 99, 50);
        CHECKS.same("24 at the point", Rows.places(m, 50), Rows.of(7, 0, 3, 5, 2, 4, 8, 6));
        CHECKS.same("24 at the left", Rows.places(m, 0), Rows.of(4, 7, 3, 6, 0));
        CHECKS.same("24 at the right", Rows.places(m, 100), Rows.of(0, 3, 6, 2));
        CHECKS.same("24 between", Rows.places(m, 75), Rows.of(0, 3, 8, 6, 2));
        onlyBelow(m, "24 place", 8, p -> m.crossingAt(50, p));
        onlyBelow(m, "24 place", 5, p -> m.crossingAt(0, p));
        SegmentMap one = Maps.of(10, 10, 20, 20, 30, 0, 30, 9);
        onlyBelow(one, "24 nothing there", 0, p -> one.crossingAt(30, p));
        onlyBelow(one, "24 nothing there", 0, p -> one.crossingAt(9, p));
        CHECKS.same("24 one", one.crossingAt(20, 0), 0);
        for (int c : OUTSIDE) {
            CHECKS.outOfRange(m, "24 x " + c, () -> m.crossingAt(c, 0));
            CHECKS.outOfRange(m, "24 x and place " + c, () -> m.crossingAt(c, -1));
            CHECKS.outOfRange(m, "24 x and place " + c, () -> m.crossingAt(c, 12));
        }
        // Steeper and less steep ones at one end, with numbers against the order.
        SegmentMap fan = Maps.of(0, 10, 1, 100, 0, 10, 100, 100, 0, 10, 100, 10, 0, 10, 100, 0, 0, 10, 1, 0);
        CHECKS.same("24 fan", Rows.places(fan, 0), Rows.of(4, 3, 2, 1, 0));
        SegmentMap line = Maps.of(50, 50, 90, 70, 10, 30, 50, 50);
        CHECKS.same("24 same slope", Rows.places(line, 50), Rows.of(0, 1));
        SegmentMap changed = Maps.of(10, 30, 50, 50, 50, 50, 90, 70);
        CHECKS.same("24 same slope", Rows.places(changed, 50), Rows.of(0, 1));
    }

    private static void greatest() {
        SegmentMap m = Maps.greatest();
        CHECKS.same("6 most", m.vertices(), 90);
        CHECKS.same("7 most", m.edges(), 144);
        CHECKS.same("8 most", m.faces(), 56);
        CHECKS.same("9 most", m.components(), 1);
        CHECKS.same("most, all", Picture.of(m), Oracle.of(Maps.greatestEnds()).picture());
    }
}
