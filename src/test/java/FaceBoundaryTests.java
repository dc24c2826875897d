import java.util.List;
import java.util.function.IntUnaryOperator;

/** The document's edges of faces, points and vertical lines, with answers worked out by hand. */
final class FaceBoundaryTests {
    private static final Checks CHECKS = new Checks("FaceBoundaryTests");

    private FaceBoundaryTests() {
    }

    public static void main(String[] args) {
        frameInAnyOrder();
        frameOpens();
        mostFaces();
        theFaceThatIsNotBounded();
        bothSidesTheSame();
        onLeftAndOnRight();
        firstVerticesRising();
        firstVertexOnTheOuterBorder();
        firstVertexIsNoEnd();
        manyWithTheSameFirstVertex();
        severalTimesAtTheFirstVertex();
        spurAtTheFirstVertex();
        sidesCountTwice();
        pointsOfSegments();
        pointsNextToSegments();
        pointsRoundUprights();
        everyPoint();
        endsOfALine();
        uprightsAreNotCrossed();
        placesByHeight();
        placesBySlope();
        placesByNumber();
        CHECKS.finish();
    }

    // ---- the frame of the whole square

    /** The four sides in each of 24 orders and each with its ends in either order. */
    private static void frameInAnyOrder() {
        int[][] sides = {{0, 0, 100, 0}, {100, 0, 100, 100}, {0, 100, 100, 100}, {0, 0, 0, 100}};
        for (int k = 0; k < 256; k++) {
            int[] order = {k % 4, k / 4 % 4, k / 16 % 4, k / 64};
            if (java.util.Arrays.stream(order).distinct().count() == 4) {
                for (int turned = 0; turned < 16; turned++) {
                    SegmentMap m = new SegmentMap();
                    for (int i = 0; i < 4; i++) {
                        int[] s = sides[order[i]];
                        boolean back = (turned >> i & 1) == 1;
                        m.add(s[back ? 2 : 0], s[back ? 3 : 1], s[back ? 0 : 2], s[back ? 1 : 3]);
                    }
                    frame(m, order);
                }
            }
        }
    }

    private static void frame(SegmentMap m, int[] order) {
        // Of the lower, the right, the upper and the left side.
        int[] left = {1, 1, 0, 0};
        int[] from = {0, 2, 1, 0};
        int[] to = {2, 3, 3, 1};
        CHECKS.same("6 to 9 frame", Rows.of(m.vertices(), m.edges(), m.faces(), m.components()),
                Rows.of(4, 4, 2, 1));
        for (int e = 0; e < 4; e++) {
            CHECKS.same("16 to 19 frame", Rows.of(m.from(e), m.to(e), m.leftOf(e), m.rightOf(e)),
                    Rows.of(from[order[e]], to[order[e]], left[order[e]], 1 - left[order[e]]));
        }
        CHECKS.same("20 frame", Rows.faces(m, m::sides), Rows.of(4, 4));
        CHECKS.same("21 frame", Rows.faces(m, m::firstVertex), Rows.of(-1, 0));
        CHECKS.same("22 frame", Rows.of(m.faceAt(0, 0), m.faceAt(100, 0), m.faceAt(0, 100), m.faceAt(100, 100),
                m.faceAt(0, 50), m.faceAt(50, 0), m.faceAt(100, 50), m.faceAt(50, 100), m.faceAt(1, 1),
                m.faceAt(99, 1), m.faceAt(1, 99), m.faceAt(99, 99), m.faceAt(50, 50)),
                Rows.of(-1, -1, -1, -1, -1, -1, -1, -1, 1, 1, 1, 1, 1));
        for (int x : new int[] {0, 1, 50, 99, 100}) {
            CHECKS.same("23 frame", m.crossing(x), 2);
            CHECKS.same("24 frame", Rows.of(order[m.crossingAt(x, 0)], order[m.crossingAt(x, 1)]), Rows.of(0, 2));
        }
    }

    /** Without one of its sides it bounds nothing. */
    private static void frameOpens() {
        for (int gone = 0; gone < 4; gone++) {
            SegmentMap m = Maps.frame();
            m.remove(gone);
            CHECKS.same("8 open", m.faces(), 1);
            CHECKS.same("18 open", Rows.edges(m, m::leftOf), Rows.of(0, 0, 0));
            CHECKS.same("19 open", Rows.edges(m, m::rightOf), Rows.of(0, 0, 0));
            CHECKS.same("20 open", m.sides(0), 6);
            CHECKS.same("22 open", m.faceAt(50, 50), 0);
        }
        // A gap of one unit opens it, too.
        SegmentMap gap = Maps.of(0, 0, 99, 0, 100, 0, 100, 100, 100, 100, 0, 100, 0, 100, 0, 0);
        CHECKS.same("8 a gap", Rows.of(gap.faces(), gap.faceAt(50, 50), gap.faceAt(100, 0)), Rows.of(1, 0, -1));
        SegmentMap shut = Maps.of(0, 0, 99, 0, 100, 0, 100, 100, 100, 100, 0, 100, 0, 100, 0, 0, 100, 0, 99, 0);
        CHECKS.same("8 no gap", Rows.of(shut.faces(), shut.faceAt(50, 50)), Rows.of(2, 1));
    }

    private static void mostFaces() {
        SegmentMap m = Maps.greatest();
        CHECKS.same("8 most", m.faces(), 56);
        CHECKS.same("21 most", m.firstVertex(55) > m.firstVertex(1) && m.firstVertex(1) >= 12, true);
        int sides = 0;
        for (int f = 0; f < 56; f++) {
            CHECKS.same("20 most", f == 0 || m.sides(f) >= 3, true);
            CHECKS.same("21 rising", f < 2 || m.firstVertex(f) >= m.firstVertex(f - 1), true);
            sides += m.sides(f);
        }
        CHECKS.same("20 two of each edge", sides, 288);
        SegmentMap grid = new SegmentMap();
        for (int i = 0; i <= 100; i += 20) {
            grid.add(0, i, 100, i);
            grid.add(i, 0, i, 100);
        }
        // Columns from the left, each from below upward.
        CHECKS.same("8 grid", grid.faces(), 26);
        for (int f = 0; f < 25; f++) {
            CHECKS.same("22 grid", grid.faceAt(10 + f / 5 * 20, 10 + f % 5 * 20), f + 1);
            CHECKS.same("21 grid", grid.firstVertex(f + 1), f / 5 * 6 + f % 5);
            CHECKS.same("20 grid", grid.sides(f + 1), 4);
        }
        CHECKS.same("20 round the grid", grid.sides(0), 20);
    }

    // ---- what an edge parts

    private static void theFaceThatIsNotBounded() {
        for (SegmentMap m : List.of(new SegmentMap(), Maps.of(0, 0, 100, 100), Maps.frame(), Maps.greatest(),
                Maps.star(), Maps.full(), Maps.emptied(Maps.frame()))) {
            CHECKS.same("21 none of face 0", m.firstVertex(0), SegmentMap.NONE);
            for (int f = 1; f < m.faces(); f++) {
                CHECKS.same("21 one of the others", m.firstVertex(f) >= 0, true);
            }
        }
        // It reaches into a cup, and round all that lies in it.
        SegmentMap cup = Maps.of(0, 100, 0, 0, 0, 0, 100, 0, 100, 0, 100, 100, 40, 40, 60, 40, 60, 40, 50, 60,
                50, 60, 40, 40);
        CHECKS.same("22 in a cup", Rows.of(cup.faceAt(50, 20), cup.faceAt(1, 1), cup.faceAt(50, 50)), Rows.of(0, 0, 1));
        CHECKS.same("20 in a cup", Rows.faces(cup, cup::sides), Rows.of(9, 3));
    }

    private static void bothSidesTheSame() {
        SegmentMap free = Maps.full();
        CHECKS.same("18 free", Rows.edges(free, free::leftOf), Rows.of(new int[12]));
        CHECKS.same("19 free", Rows.edges(free, free::rightOf), Rows.of(new int[12]));
        // Hanging into a face from a corner, then from a side as well, then from no side.
        SegmentMap m = Maps.frame();
        m.add(0, 0, 50, 50);
        CHECKS.same("18 from a corner", Rows.edges(m, m::leftOf), Rows.of(1, 1, 0, 0, 1));
        CHECKS.same("19 from a corner", Rows.edges(m, m::rightOf), Rows.of(0, 0, 1, 1, 1));
        m.add(100, 50, 60, 50);
        CHECKS.same("18 from a side", Rows.edges(m, m::leftOf), Rows.of(1, 1, 1, 0, 0, 1, 1));
        CHECKS.same("19 from a side", Rows.edges(m, m::rightOf), Rows.of(0, 0, 0, 1, 1, 1, 1));
        m.add(20, 50, 20, 60);
        CHECKS.same("18 from none", Rows.edges(m, m::leftOf), Rows.of(1, 1, 1, 0, 0, 1, 1, 1));
        CHECKS.same("19 from none", Rows.edges(m, m::rightOf), Rows.of(0, 0, 0, 1, 1, 1, 1, 1));
    }

    private static void onLeftAndOnRight() {
        // A square parted by a diagonal that rises, one that falls, a level one, an upright one.
        int[][] parting = {{0, 0, 100, 100}, {0, 100, 100, 0}, {0, 50, 100, 50}, {50, 0, 50, 100}};
        int[][] above = {{10, 90}, {90, 90}, {50, 90}, {10, 50}};
        int[][] below = {{90, 10}, {10, 10}, {50, 10}, {90, 50}};
        for (int i = 0; i < 4; i++) {
            SegmentMap m = Maps.frame();
            int[] p = parting[i];
            m.add(p[2], p[3], p[0], p[1]);
            int last = m.edges() - 1;
            CHECKS.same("8 parted", m.faces(), 3);
            CHECKS.same("18 on the left", m.leftOf(last), m.faceAt(above[i][0], above[i][1]));
            CHECKS.same("19 on the right", m.rightOf(last), m.faceAt(below[i][0], below[i][1]));
            // Only the upright one has the left face at the first vertex and the right one behind it.
            CHECKS.same("18 number", m.leftOf(last), i == 3 ? 1 : 2);
            CHECKS.same("19 number", m.rightOf(last), i == 3 ? 2 : 1);
        }
    }

    // ---- the numbers of faces

    private static void addTriangle(SegmentMap m, int x, int y, int size) {
        m.add(x + size, y, x, y);
        m.add(x, y, x, y + size);
        m.add(x, y + size, x + size, y);
    }

    private static void firstVerticesRising() {
        // Added from the right to the left and from above downward.
        SegmentMap m = new SegmentMap();
        addTriangle(m, 50, 0, 9);
        addTriangle(m, 20, 91, 9);
        addTriangle(m, 20, 40, 9);
        addTriangle(m, 0, 60, 9);
        CHECKS.same("21 rising", Rows.faces(m, m::firstVertex), Rows.of(-1, 0, 3, 5, 9));
        CHECKS.same("22 rising", Rows.of(m.faceAt(1, 61), m.faceAt(21, 41), m.faceAt(21, 92), m.faceAt(51, 1)),
                Rows.of(1, 2, 3, 4));
        m.remove(9);
        CHECKS.same("21 without the first", Rows.faces(m, m::firstVertex), Rows.of(-1, 3, 5, 9));
        CHECKS.same("22 without the first", Rows.of(m.faceAt(1, 61), m.faceAt(21, 41), m.faceAt(21, 92),
                m.faceAt(51, 1)), Rows.of(0, 1, 2, 3));
    }

    private static void firstVertexOnTheOuterBorder() {
        // In a big face a smaller one, and a free segment; neither gives the big face its first vertex.
        SegmentMap m = Maps.of(10, 0, 90, 0, 90, 0, 50, 90, 50, 90, 10, 0, 0, 100, 100, 100);
        addTriangle(m, 40, 10, 9);
        m.add(50, 80, 50, 70);
        CHECKS.same("21 outer border", Rows.faces(m, m::firstVertex), Rows.of(-1, 1, 2));
        CHECKS.same("22 outer border", Rows.of(m.faceAt(50, 5), m.faceAt(41, 11), m.faceAt(0, 0)), Rows.of(1, 2, 0));
        CHECKS.same("20 outer border", Rows.faces(m, m::sides), Rows.of(5, 8, 3));
        // What lies round it may begin further right: its first vertex is on its own border.
        SegmentMap beside = Maps.of(0, 50, 20, 50, 10, 0, 90, 0, 90, 0, 50, 90, 50, 90, 10, 0);
        CHECKS.same("21 beside", Rows.faces(beside, beside::firstVertex), Rows.of(-1, 1));
        // The leftmost vertex is neither the lowest nor the highest one.
        SegmentMap lying = Maps.of(0, 50, 50, 0, 50, 0, 100, 50, 100, 50, 50, 100, 50, 100, 0, 50);
        CHECKS.same("21 leftmost", lying.firstVertex(1), 0);
        // Of two leftmost ones it is the lower one.
        SegmentMap upright = Maps.of(0, 100, 0, 50, 0, 50, 100, 0, 100, 0, 0, 100, 0, 0, 0, 1);
        CHECKS.same("21 lower of two", upright.firstVertex(1), 2);
    }

    private static void firstVertexIsNoEnd() {
        SegmentMap m = Maps.of(0, 0, 20, 20, 0, 20, 20, 0, 15, 0, 15, 20);
        CHECKS.same("21 a crossing", Rows.of(m.faces(), m.firstVertex(1), m.xNumerator(2)), Rows.of(2, 2, 10));
        CHECKS.same("22 behind the crossing", Rows.of(m.faceAt(9, 10), m.faceAt(10, 10), m.faceAt(11, 10),
                m.faceAt(15, 10), m.faceAt(16, 10)), Rows.of(0, -1, 1, -1, 0));
    }

    /** Ten triangles between eleven ways from one point to the right side, numbered from below. */
    private static void manyWithTheSameFirstVertex() {
        for (int height : new int[] {0, 50, 100}) {
            SegmentMap m = new SegmentMap();
            for (int i = 0; i <= 10; i++) {
                int y = i * 7 % 11 * 10;
                m.add(100, y, 0, height);
            }
            m.add(100, 0, 100, 100);
            CHECKS.same("8 fan", m.faces(), 11);
            for (int f = 1; f <= 10; f++) {
                CHECKS.same("21 fan", m.firstVertex(f), 0);
                CHECKS.same("22 fan", m.faceAt(99, (height + 99 * (10 * f - 5)) / 100), f);
                CHECKS.same("20 fan", m.sides(f), 3);
            }
            CHECKS.same("20 round the fan", m.sides(0), 12);
        }
        // The uppermost one lies along an upright segment; nothing is higher.
        SegmentMap m = Maps.of(0, 0, 0, 100, 0, 0, 100, 100, 0, 0, 100, 0, 0, 100, 100, 100, 100, 100, 100, 0);
        CHECKS.same("21 up to an upright one", Rows.of(m.rightOf(0), m.leftOf(1), m.rightOf(1), m.leftOf(2)),
                Rows.of(2, 2, 1, 1));
        CHECKS.same("21 the same first vertex", Rows.faces(m, m::firstVertex), Rows.of(-1, 0, 0));
    }

    /** In a great triangle two small ones hang from its first vertex; it lies there three times. */
    private static void severalTimesAtTheFirstVertex() {
        int[][] parts = {{0, 0, 100, 10}, {100, 10, 10, 100}, {10, 100, 0, 0}, {0, 0, 40, 10}, {40, 10, 40, 20},
            {40, 20, 0, 0}, {0, 0, 20, 40}, {20, 40, 10, 40}, {10, 40, 0, 0}};
        for (int start = 0; start < 9; start++) {
            SegmentMap m = new SegmentMap();
            for (int i = 0; i < 9; i++) {
                int[] p = parts[(start + 4 * i) % 9];
                m.add(p[0], p[1], p[2], p[3]);
            }
            CHECKS.same("21 three times", Rows.faces(m, m::firstVertex), Rows.of(-1, 0, 0, 0));
            CHECKS.same("22 the great one by its lowest place", Rows.of(m.faceAt(40, 6), m.faceAt(40, 40),
                    m.faceAt(10, 60)), Rows.of(1, 1, 1));
            CHECKS.same("22 the lower small one", m.faceAt(39, 15), 2);
            CHECKS.same("22 the upper small one", m.faceAt(15, 39), 3);
            CHECKS.same("20 three times", Rows.faces(m, m::sides), Rows.of(3, 9, 3, 3));
        }
        // Where a small one has the lowest place there, the great one comes behind it.
        SegmentMap low = Maps.of(0, 0, 100, 0, 100, 0, 0, 100, 0, 100, 0, 0, 50, 0, 50, 10, 50, 10, 0, 0,
                0, 0, 10, 50, 10, 50, 5, 50, 5, 50, 0, 0);
        CHECKS.same("22 a small one below", Rows.of(low.faceAt(40, 1), low.faceAt(20, 20), low.faceAt(2, 50),
                low.faceAt(7, 49)), Rows.of(1, 2, 2, 3));
        CHECKS.same("21 a small one below", Rows.faces(low, low::firstVertex), Rows.of(-1, 0, 0, 0));
    }

    /** A free end in a face lets the face lie twice at its first vertex; it counts once. */
    private static void spurAtTheFirstVertex() {
        SegmentMap m = Maps.of(0, 50, 100, 0, 100, 0, 100, 50, 0, 50, 100, 50, 0, 50, 100, 100, 100, 100, 100, 50,
                0, 50, 50, 40, 0, 50, 50, 60);
        CHECKS.same("21 spurs", Rows.faces(m, m::firstVertex), Rows.of(-1, 0, 0));
        CHECKS.same("22 spurs", Rows.of(m.faceAt(50, 30), m.faceAt(50, 45), m.faceAt(50, 55), m.faceAt(50, 70),
                m.faceAt(50, 20), m.faceAt(50, 80)), Rows.of(1, 1, 2, 2, 0, 0));
        CHECKS.same("20 spurs", Rows.faces(m, m::sides), Rows.of(4, 5, 5));
    }

    private static void sidesCountTwice() {
        CHECKS.same("20 star", Maps.star().sides(0), 48);
        CHECKS.same("20 full", Maps.full().sides(0), 24);
        SegmentMap m = Maps.frame();
        m.add(40, 40, 60, 60);
        CHECKS.same("20 a free one inside", Rows.faces(m, m::sides), Rows.of(4, 6));
        m.add(40, 60, 60, 40);
        CHECKS.same("20 a cross inside", Rows.faces(m, m::sides), Rows.of(4, 12));
        m.add(0, 50, 50, 50);
        CHECKS.same("20 held by a side", Rows.faces(m, m::sides), Rows.of(5, 15));
        m.add(50, 50, 100, 50);
        // Each half has half of the cross, both sides of it, and one side of the two that part them.
        CHECKS.same("20 parted", Rows.faces(m, m::sides), Rows.of(6, 9, 9));
        for (int round = 0; round < 8; round++) {
            int sum = 0;
            for (int f = 0; f < m.faces(); f++) {
                sum += m.sides(f);
            }
            CHECKS.same("20 all", sum, 2 * m.edges());
            m.remove(m.segments() - 1);
        }
        CHECKS.same("20 none", m.sides(0), 0);
    }

    // ---- points

    private static void pointsOfSegments() {
        int[][] lines = {{0, 0, 100, 100}, {0, 100, 100, 0}, {0, 0, 100, 0}, {0, 100, 100, 100}, {0, 0, 0, 100},
            {100, 0, 100, 100}, {0, 0, 99, 66}, {10, 90, 90, 30}, {50, 50, 50, 51}, {100, 99, 99, 100}};
        for (int[] l : lines) {
            SegmentMap m = Maps.of(l);
            for (int x = 0; x <= 100; x++) {
                for (int y = 0; y <= 100; y++) {
                    boolean line = (l[2] - l[0]) * (y - l[1]) == (l[3] - l[1]) * (x - l[0]);
                    boolean on = line && Math.min(l[0], l[2]) <= x && x <= Math.max(l[0], l[2])
                            && Math.min(l[1], l[3]) <= y && y <= Math.max(l[1], l[3]);
                    CHECKS.same("22 a point of one " + x + " " + y, m.faceAt(x, y), on ? -1 : 0);
                }
            }
        }
        // A vertex of several, one that only ends there, and one where others cross.
        SegmentMap star = Maps.star();
        CHECKS.same("22 common points", Rows.of(star.faceAt(50, 50), star.faceAt(50, 100), star.faceAt(0, 100),
                star.faceAt(49, 49), star.faceAt(51, 50), star.faceAt(50, 51)), Rows.of(-1, -1, -1, -1, -1, -1));
        CHECKS.same("22 next to the common point", Rows.of(star.faceAt(49, 48), star.faceAt(51, 52)), Rows.of(0, 0));
        star.remove(11);
        CHECKS.same("22 no point any more", Rows.of(star.faceAt(50, 100), star.faceAt(50, 51)), Rows.of(0, 0));
    }

    private static void pointsNextToSegments() {
        // Between 98 x and 99 x of 100: only whole points with y = x - 1 lie there, from x = 51 on.
        SegmentMap wedge = Maps.of(0, 0, 100, 99, 100, 99, 100, 98, 100, 98, 0, 0);
        for (int x = 1; x < 100; x++) {
            int due = x > 50 ? 1 : x == 50 ? -1 : 0;
            CHECKS.same("22 wedge " + x, Rows.of(wedge.faceAt(x, x - 1), wedge.faceAt(x, x)), Rows.of(due, 0));
        }
        CHECKS.same("22 under the wedge", wedge.faceAt(99, 97), 0);
        CHECKS.same("22 corners of the wedge", Rows.of(wedge.faceAt(0, 0), wedge.faceAt(100, 98), wedge.faceAt(100, 99),
                wedge.faceAt(100, 97), wedge.faceAt(100, 100)), Rows.of(-1, -1, -1, 0, 0));
        // The least triangle that has a whole point inside.
        SegmentMap least = Maps.of(0, 0, 2, 1, 2, 1, 1, 2, 1, 2, 0, 0);
        CHECKS.same("22 least", Rows.of(least.faceAt(1, 1), least.faceAt(0, 1), least.faceAt(1, 0), least.faceAt(2, 2),
                least.faceAt(2, 1)), Rows.of(1, 0, 0, 0, -1));
    }

    /** In one column with upright segments, whose ends are vertices of several faces. */
    private static void pointsRoundUprights() {
        SegmentMap m = Maps.frame();
        m.add(50, 0, 50, 40);
        m.add(50, 60, 50, 100);
        CHECKS.same("22 between two ends", Rows.of(m.faces(), m.faceAt(50, 41), m.faceAt(50, 50), m.faceAt(50, 59)),
                Rows.of(2, 1, 1, 1));
        m.add(50, 60, 100, 60);
        m.add(0, 60, 50, 60);
        CHECKS.same("22 under the vertex of three", Rows.of(m.faces(), m.faceAt(50, 59), m.faceAt(50, 60),
                m.faceAt(50, 61), m.faceAt(49, 61), m.faceAt(51, 61)), Rows.of(4, 1, -1, -1, 2, 3));
        m.add(50, 40, 0, 40);
        m.add(50, 40, 100, 40);
        CHECKS.same("22 between two vertices of three", Rows.of(m.faces(), m.faceAt(49, 39), m.faceAt(51, 39),
                m.faceAt(50, 41), m.faceAt(50, 59), m.faceAt(49, 61), m.faceAt(51, 61)),
                Rows.of(6, 1, 4, 2, 2, 3, 5));
        // Right over the end of one that comes from the left, and of one that goes to the right.
        SegmentMap ends = Maps.of(0, 0, 50, 50, 50, 50, 100, 0, 100, 0, 0, 0);
        CHECKS.same("22 over and under a peak", Rows.of(ends.faceAt(50, 51), ends.faceAt(50, 49)), Rows.of(0, 1));
        SegmentMap deep = Maps.of(0, 100, 50, 50, 50, 50, 100, 100, 100, 100, 0, 100);
        CHECKS.same("22 over and under a pit", Rows.of(deep.faceAt(50, 51), deep.faceAt(50, 49)), Rows.of(1, 0));
        SegmentMap right = Maps.of(50, 50, 100, 0, 100, 0, 100, 100, 100, 100, 50, 50);
        CHECKS.same("22 round a left end", Rows.of(right.faceAt(50, 51), right.faceAt(50, 49), right.faceAt(49, 50),
                right.faceAt(51, 50)), Rows.of(0, 0, 0, 1));
        SegmentMap left = Maps.of(50, 50, 0, 0, 0, 0, 0, 100, 0, 100, 50, 50);
        CHECKS.same("22 round a right end", Rows.of(left.faceAt(50, 51), left.faceAt(50, 49), left.faceAt(51, 50),
                left.faceAt(49, 50), left.faceAt(1, 0), left.faceAt(1, 1), left.faceAt(1, 2)),
                Rows.of(0, 0, 0, 1, 0, -1, 1));
    }

    private static void everyPoint() {
        for (int[] ends : List.of(Maps.greatestEnds(), new int[] {0, 0, 100, 0, 100, 0, 100, 100, 100, 100, 0, 100,
            0, 100, 0, 0, 0, 0, 50, 100, 50, 0, 50, 100, 50, 100, 100, 0, 0, 50, 100, 51, 0, 70, 100, 70})) {
            SegmentMap m = Maps.of(ends);
            Oracle due = Oracle.of(ends);
            for (int x = 0; x <= 100; x++) {
                int at = x;
                IntUnaryOperator answer = y -> m.faceAt(at, y);
                IntUnaryOperator expected = y -> due.faceAt(at, y);
                CHECKS.same("22 at " + x, Rows.below(101, answer), Rows.below(101, expected));
                CHECKS.same("24 at " + x, Rows.places(m, x), due.crossingsAt(x) + "\n");
            }
        }
    }

    // ---- vertical lines

    private static void endsOfALine() {
        SegmentMap m = Maps.of(20, 0, 30, 9, 30, 9, 40, 0, 0, 50, 1, 50, 100, 60, 99, 60, 0, 100, 100, 99);
        int[][] due = {{0, 2}, {1, 2}, {2, 1}, {19, 1}, {20, 2}, {29, 2}, {30, 3}, {31, 2}, {40, 2}, {41, 1}, {98, 1},
            {99, 2}, {100, 2}};
        for (int[] d : due) {
            CHECKS.same("23 at " + d[0], m.crossing(d[0]), d[1]);
            CHECKS.noSuch(m, "24 behind the last at " + d[0], () -> m.crossingAt(d[0], d[1]));
            CHECKS.noSuch(m, "24 before the first at " + d[0], () -> m.crossingAt(d[0], -1));
            CHECKS.same("24 the last at " + d[0], m.crossingAt(d[0], d[1] - 1), 4);
        }
        CHECKS.same("24 at 0", m.crossingAt(0, 0), 2);
        CHECKS.same("24 at 100", m.crossingAt(100, 0), 3);
        SegmentMap full = Maps.full();
        for (int x = 0; x <= 100; x++) {
            CHECKS.same("23 all twelve", full.crossing(x), 12);
            CHECKS.same("24 the first and the last", Rows.of(full.crossingAt(x, 0), full.crossingAt(x, 11)),
                    Rows.of(0, 11));
        }
    }

    private static void uprightsAreNotCrossed() {
        for (int x : new int[] {0, 1, 50, 100}) {
            SegmentMap m = Maps.of(x, 0, x, 50, x, 50, x, 100);
            CHECKS.same("23 only uprights", m.crossing(x), 0);
            CHECKS.noSuch(m, "24 only uprights", () -> m.crossingAt(x, 0));
            m.add(0, 50, 100, 50);
            CHECKS.same("23 one through them", m.crossing(x), 1);
            CHECKS.same("24 one through them", m.crossingAt(x, 0), 2);
            CHECKS.noSuch(m, "24 no other", () -> m.crossingAt(x, 1));
        }
        // One unit of slope is no upright, at either end of the square.
        SegmentMap steep = Maps.of(0, 0, 1, 100, 100, 0, 99, 100);
        CHECKS.same("23 steep", Rows.of(steep.crossing(0), steep.crossing(1), steep.crossing(2), steep.crossing(98),
                steep.crossing(99), steep.crossing(100)), Rows.of(1, 1, 0, 0, 1, 1));
    }

    private static void placesByHeight() {
        SegmentMap m = Maps.of(0, 100, 100, 100, 0, 99, 100, 0, 0, 0, 100, 99, 0, 50, 100, 50, 0, 0, 100, 0);
        CHECKS.same("24 at 0", Rows.places(m, 0), Rows.of(4, 2, 3, 1, 0));
        CHECKS.same("24 at 49", Rows.places(m, 49), Rows.of(4, 2, 3, 1, 0));
        CHECKS.same("24 at 51", Rows.places(m, 51), Rows.of(4, 1, 3, 2, 0));
        // At 100 the falling one and the level one have the same point, as at 0 the rising one had.
        CHECKS.same("24 at 100", Rows.places(m, 100), Rows.of(1, 4, 3, 2, 0));
        // They differ by 1 part of 9900 at 99, and not at 0.
        SegmentMap near = Maps.of(0, 0, 100, 99, 0, 0, 99, 98);
        CHECKS.same("24 near", Rows.places(near, 99), Rows.of(1, 0));
        CHECKS.same("24 near at 98", Rows.places(near, 98), Rows.of(1, 0));
        CHECKS.same("24 near at 1", Rows.places(near, 1), Rows.of(1, 0));
        CHECKS.same("24 near at 0", Rows.places(near, 0), Rows.of(1, 0));
    }

    /** At a common point by rising slopes, whatever the numbers and wherever the point lies on them. */
    private static void placesBySlope() {
        SegmentMap star = Maps.star();
        CHECKS.same("24 star", Rows.places(star, 50), Rows.of(10, 9, 8, 7, 6, 5, 4, 3, 2, 1, 0));
        SegmentMap left = Maps.of(0, 50, 100, 51, 0, 50, 100, 49, 0, 50, 1, 100, 0, 50, 1, 0, 0, 50, 100, 50);
        CHECKS.same("24 ends on the left", Rows.places(left, 0), Rows.of(3, 1, 4, 0, 2));
        SegmentMap right = Maps.of(100, 50, 0, 51, 100, 50, 0, 49, 100, 50, 99, 100, 100, 50, 99, 0, 100, 50, 0, 50);
        CHECKS.same("24 ends on the right", Rows.places(right, 100), Rows.of(2, 0, 4, 1, 3));
        // One ends, one begins, one goes through.
        SegmentMap mixed = Maps.of(50, 50, 100, 100, 0, 60, 50, 50, 0, 49, 100, 51, 50, 50, 60, 0);
        CHECKS.same("24 mixed", Rows.places(mixed, 50), Rows.of(3, 1, 2, 0));
        SegmentMap slight = Maps.of(0, 0, 100, 99, 0, 0, 99, 98, 0, 0, 98, 97, 0, 0, 97, 96);
        CHECKS.same("24 slight", Rows.places(slight, 0), Rows.of(3, 2, 1, 0));
    }

    /** With the same point and slope, which two in a row have at their common end, by numbers. */
    private static void placesByNumber() {
        int[][] ends = {{0, 0, 50, 50}, {50, 50, 100, 100}, {0, 100, 50, 50}, {50, 50, 100, 0}, {0, 50, 50, 50},
            {50, 50, 100, 50}};
        for (int turn = 0; turn < 6; turn++) {
            SegmentMap m = new SegmentMap();
            int[] number = new int[6];
            for (int i = 0; i < 6; i++) {
                int[] e = ends[(5 * i + turn) % 6];
                number[(5 * i + turn) % 6] = i;
                m.add(e[0], e[1], e[2], e[3]);
            }
            CHECKS.same("24 by numbers", Rows.places(m, 50), Rows.of(
                    Math.min(number[2], number[3]), Math.max(number[2], number[3]),
                    Math.min(number[4], number[5]), Math.max(number[4], number[5]),
                    Math.min(number[0], number[1]), Math.max(number[0], number[1])));
        }
    }
}
