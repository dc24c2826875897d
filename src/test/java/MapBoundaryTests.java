import java.util.List;

/** The document's edges of vertices, edges and components, with answers worked out by hand. */
final class MapBoundaryTests {
    private static final Checks CHECKS = new Checks("MapBoundaryTests");

    private MapBoundaryTests() {
    }

    public static void main(String[] args) {
        verticesEachOnce();
        verticesByX();
        verticesByYWithTheSameX();
        verticesThatAreNear();
        lowestTerms();
        greatestTerms();
        edgesOfTheSameSegment();
        edgesGoUpward();
        leastAndGreatestDegree();
        components();
        componentsThatDoNotMeet();
        CHECKS.finish();
    }

    // ---- vertices

    private static String spots(SegmentMap m) {
        StringBuilder text = new StringBuilder();
        for (int v = 0; v < m.vertices(); v++) {
            text.append(m.xNumerator(v)).append('/').append(m.xDenominator(v)).append(' ');
            text.append(m.yNumerator(v)).append('/').append(m.yDenominator(v)).append("; ");
        }
        return text.append('\n').toString();
    }

    private static void verticesEachOnce() {
        CHECKS.same("6 an end of two", spots(Maps.of(0, 0, 100, 0, 100, 0, 100, 100)),
                "0/1 0/1; 100/1 0/1; 100/1 100/1; \n");
        CHECKS.same("6 an end of twelve", fan(12).vertices(), 13);
        CHECKS.same("6 an end of one within another", spots(Maps.of(0, 0, 100, 0, 50, 0, 50, 100)),
                "0/1 0/1; 50/1 0/1; 50/1 100/1; 100/1 0/1; \n");
        CHECKS.same("6 an end where others cross", spots(Maps.of(0, 0, 2, 2, 0, 2, 2, 0, 1, 1, 9, 1)),
                "0/1 0/1; 0/1 2/1; 1/1 1/1; 2/1 0/1; 2/1 2/1; 9/1 1/1; \n");
        CHECKS.same("6 a point of three", Maps.of(0, 0, 3, 3, 0, 3, 3, 0, 1, 0, 2, 3).vertices(), 7);
        CHECKS.same("6 a point of twelve", Maps.star().vertices(), 25);
        CHECKS.same("6 a point of none but one", Maps.of(0, 0, 4, 4).vertices(), 2);
        // Two points of three segments each, at thirds of a unit.
        CHECKS.same("6 a broken point of three", spots(Maps.of(0, 0, 1, 1, 0, 1, 2, 0, 0, 2, 1, 0)),
                "0/1 0/1; 0/1 1/1; 0/1 2/1; 2/3 2/3; 1/1 0/1; 1/1 1/1; 2/1 0/1; \n");
        CHECKS.same("6 no vertex any more", spots(without(Maps.of(0, 0, 2, 2, 0, 2, 2, 0), 1)),
                "0/1 0/1; 2/1 2/1; \n");
    }

    private static SegmentMap without(SegmentMap m, int segment) {
        m.remove(segment);
        return m;
    }

    /** All from the corner 0 0, to the right side and to the upper one. */
    private static SegmentMap fan(int count) {
        SegmentMap m = new SegmentMap();
        for (int i = 0; i < count; i++) {
            m.add(0, 0, i < 6 ? 100 : 10 * i - 60, i < 6 ? 10 * i : 100);
        }
        return m;
    }

    private static void verticesByX() {
        CHECKS.same("10 from 0 to 100", spots(Maps.of(100, 0, 0, 100, 99, 50, 100, 50, 1, 0, 0, 1)),
                "0/1 1/1; 0/1 100/1; 1/1 0/1; 99/1 50/1; 100/1 0/1; 100/1 50/1; \n");
        // The higher and the later one comes first, as it is further left.
        CHECKS.same("10 x before y", spots(Maps.of(51, 0, 52, 0, 50, 100, 49, 100)),
                "49/1 100/1; 50/1 100/1; 51/1 0/1; 52/1 0/1; \n");
    }

    private static void verticesByYWithTheSameX() {
        CHECKS.same("10 at x 0", spots(Maps.of(0, 100, 0, 99, 0, 0, 0, 1, 0, 50, 0, 51)),
                "0/1 0/1; 0/1 1/1; 0/1 50/1; 0/1 51/1; 0/1 99/1; 0/1 100/1; \n");
        CHECKS.same("10 at x 100", spots(Maps.of(100, 100, 100, 99, 100, 0, 100, 1)),
                "100/1 0/1; 100/1 1/1; 100/1 99/1; 100/1 100/1; \n");
        // The same x in other numbers: 1/2 twice, once from 2/4; y rises by halves.
        CHECKS.same("10 at a half", spots(Maps.of(0, 3, 1, 4, 0, 4, 1, 3, 0, 0, 1, 1, 0, 1, 1, 0)),
                "0/1 0/1; 0/1 1/1; 0/1 3/1; 0/1 4/1; 1/2 1/2; 1/2 7/2; 1/1 0/1; 1/1 1/1; 1/1 3/1; 1/1 4/1; \n");
        // On a vertical one: at 2/3, at 1 and at 4/3.
        CHECKS.same("12 on a vertical one", spots(Maps.of(1, 2, 1, 0, 0, 1, 3, 2, 0, 1, 3, 0, 0, 3, 2, 3)),
                "0/1 1/1; 0/1 3/1; 1/1 0/1; 1/1 2/3; 1/1 4/3; 1/1 2/1; 2/1 3/1; 3/1 0/1; 3/1 2/1; \n");
    }

    private static void verticesThatAreNear() {
        SegmentMap steep = Maps.of(49, 0, 50, 99, 50, 0, 49, 100, 49, 1, 50, 100, 50, 1, 49, 98);
        CHECKS.same("10 near", Rows.vertices(steep, steep::xNumerator),
                Rows.of(49, 49, 49, 49, 9701, 9850, 99, 9851, 149, 50, 50, 50, 50));
        CHECKS.same("11 near", Rows.vertices(steep, steep::xDenominator),
                Rows.of(1, 1, 1, 1, 196, 199, 2, 199, 3, 1, 1, 1, 1));
        // Two places whose x differ by 1 part of 12083 * 9946, with the higher one on the left.
        SegmentMap nearest = Maps.of(7, 20, 99, 87, 98, 8, 33, 92, 1, 4, 90, 31, 75, 3, 0, 92);
        int left = 0;
        while (left < nearest.vertices() - 2 && nearest.xNumerator(left) != 716069) {
            left++;
        }
        CHECKS.same("10 nearest", Rows.of(nearest.xNumerator(left), nearest.xNumerator(left + 1)),
                Rows.of(716069, 589425));
        CHECKS.same("11 nearest", Rows.of(nearest.xDenominator(left), nearest.xDenominator(left + 1)),
                Rows.of(12083, 9946));
        CHECKS.same("12 nearest", Rows.of(nearest.yNumerator(left), nearest.yNumerator(left + 1)),
                Rows.of(701548, 215581));
    }

    private static void lowestTerms() {
        // At whole places, though the lines' numbers share much: one for all divisors.
        CHECKS.same("11 13 whole", spots(Maps.of(0, 0, 100, 100, 0, 100, 100, 0, 50, 0, 50, 100, 0, 50, 100, 50)),
                "0/1 0/1; 0/1 50/1; 0/1 100/1; 50/1 0/1; 50/1 50/1; 50/1 100/1; 100/1 0/1; 100/1 50/1; "
                        + "100/1 100/1; \n");
        // Only the one coordinate is broken, and a divisor above 0 whichever segment comes first.
        int[][] orders = {{0, 0, 100, 1, 50, 0, 50, 100}, {50, 100, 50, 0, 100, 1, 0, 0},
            {50, 0, 50, 100, 0, 0, 100, 1}};
        for (int[] ends : orders) {
            CHECKS.same("13 y broken", spots(Maps.of(ends)),
                    "0/1 0/1; 50/1 0/1; 50/1 1/2; 50/1 100/1; 100/1 1/1; \n");
        }
        int[][] lying = {{0, 0, 1, 100, 0, 50, 100, 50}, {100, 50, 0, 50, 1, 100, 0, 0},
            {0, 50, 100, 50, 0, 0, 1, 100}};
        for (int[] ends : lying) {
            CHECKS.same("11 x broken", spots(Maps.of(ends)),
                    "0/1 0/1; 0/1 50/1; 1/2 50/1; 1/1 100/1; 100/1 50/1; \n");
        }
        // The ends' 0 has the divisor 1, too.
        CHECKS.same("10 zero", spots(Maps.of(0, 0, 3, 0, 0, 0, 0, 3)), "0/1 0/1; 0/1 3/1; 3/1 0/1; \n");
        CHECKS.same("10 in parts of 4 and 2", spots(Maps.of(0, 0, 3, 1, 0, 1, 1, 0)),
                "0/1 0/1; 0/1 1/1; 3/4 1/4; 1/1 0/1; 3/1 1/1; \n");
    }

    /** 100 y = 99 x and 100 x + 99 y = 9900 meet at 990000 and 980100 parts of 19801; and turned. */
    private static void greatestTerms() {
        CHECKS.same("10 great", spots(Maps.of(0, 0, 100, 99, 0, 100, 99, 0)),
                "0/1 0/1; 0/1 100/1; 990000/19801 980100/19801; 99/1 0/1; 100/1 99/1; \n");
        CHECKS.same("10 great, turned", spots(Maps.of(100, 0, 0, 99, 100, 100, 1, 0)),
                "0/1 99/1; 1/1 0/1; 990100/19801 980100/19801; 100/1 0/1; 100/1 100/1; \n");
        CHECKS.same("12 great, turned", spots(Maps.of(0, 100, 100, 1, 0, 0, 99, 100)),
                "0/1 0/1; 0/1 100/1; 990000/19801 1000000/19801; 99/1 100/1; 100/1 1/1; \n");
        // A numerator of a million in x.
        CHECKS.same("10 a million", spots(Maps.of(99, 0, 100, 100, 0, 100, 100, 99)),
                "0/1 100/1; 99/1 0/1; 1000000/10001 990100/10001; 100/1 99/1; 100/1 100/1; \n");
    }

    // ---- edges

    private static String edges(SegmentMap m) {
        StringBuilder text = new StringBuilder();
        for (int e = 0; e < m.edges(); e++) {
            text.append(m.segmentOf(e)).append(": ").append(m.from(e)).append(' ').append(m.to(e)).append("; ");
        }
        return text.append('\n').toString();
    }

    private static void edgesOfTheSameSegment() {
        // The first segment has the highest vertices; its edges are the first ones all the same.
        SegmentMap m = Maps.of(100, 50, 50, 50, 75, 0, 75, 100, 60, 100, 60, 0, 0, 0, 1, 0);
        CHECKS.same("15 rising segments", edges(m),
                "0: 2 4; 0: 4 7; 0: 7 9; 1: 6 7; 1: 7 8; 2: 3 4; 2: 4 5; 3: 0 1; \n");
        CHECKS.same("15 on one line", edges(Maps.of(50, 0, 100, 0, 50, 0, 0, 0)), "0: 1 2; 1: 0 1; \n");
        // A segment with a point of each of the eleven others has twelve edges.
        SegmentMap comb = Maps.of(0, 50, 100, 50);
        for (int i = 0; i < 11; i++) {
            comb.add(95 - 9 * i, 0, 95 - 9 * i, 100);
        }
        CHECKS.same("7 twelve on one", comb.edges(), 34);
        CHECKS.same("15 twelve on one", Rows.of(comb.segmentOf(0), comb.segmentOf(11), comb.segmentOf(12),
                comb.segmentOf(33)), Rows.of(0, 0, 1, 11));
        CHECKS.same("16 twelve on one", Rows.of(comb.from(0), comb.from(11), comb.from(12), comb.from(33)),
                Rows.of(0, 32, 31, 2));
        CHECKS.same("17 twelve on one", Rows.of(comb.to(0), comb.to(11), comb.to(12), comb.to(33)),
                Rows.of(2, 34, 32, 3));
        CHECKS.same("6 twelve on one", comb.vertices(), 35);
        // With an end at each end of it, it has but ten.
        SegmentMap gate = Maps.of(0, 50, 100, 50);
        for (int i = 0; i < 11; i++) {
            gate.add(10 * i, 50, 10 * i, 100);
        }
        CHECKS.same("7 ten on one", gate.edges(), 21);
    }

    private static void edgesGoUpward() {
        for (int[] ends : new int[][] {{0, 0, 100, 100}, {100, 100, 0, 0}, {0, 100, 100, 0}, {100, 0, 0, 100},
            {0, 0, 0, 100}, {0, 100, 0, 0}, {100, 100, 100, 0}, {100, 0, 0, 0}, {0, 100, 100, 100}}) {
            SegmentMap m = Maps.of(ends);
            CHECKS.same("16 from the lower", m.from(0), 0);
            CHECKS.same("17 to the higher", m.to(0), 1);
        }
        for (SegmentMap m : List.of(Maps.greatest(), Maps.star(), Maps.frame(), Maps.full(), fan(12))) {
            for (int e = 0; e < m.edges(); e++) {
                CHECKS.same("16 17 upward", m.from(e) < m.to(e), true);
                boolean next = e > 0 && m.segmentOf(e) == m.segmentOf(e - 1);
                CHECKS.same("16 17 one behind the other", next ? m.to(e - 1) : m.from(e), m.from(e));
                CHECKS.same("15 rising", e == 0 || m.segmentOf(e - 1) <= m.segmentOf(e), true);
            }
        }
    }

    private static void leastAndGreatestDegree() {
        CHECKS.same("14 a free end", Rows.vertices(Maps.of(0, 0, 0, 1), Maps.of(0, 0, 0, 1)::degree),
                Rows.of(1, 1));
        CHECKS.same("14 an end of twelve", fan(12).degree(0), 12);
        CHECKS.same("14 the others", fan(12).degree(12), 1);
        CHECKS.same("14 within twelve", Maps.star().degree(12), 24);
        CHECKS.same("14 within eleven", without(Maps.star(), 11).degree(11), 22);
        SegmentMap frame = Maps.frame();
        CHECKS.same("14 frame", Rows.vertices(frame, frame::degree), Rows.of(2, 2, 2, 2));
        SegmentMap t = Maps.of(0, 0, 100, 0, 50, 0, 50, 100);
        CHECKS.same("14 an end within another", Rows.vertices(t, t::degree), Rows.of(1, 3, 1, 1));
        for (SegmentMap m : List.of(new SegmentMap(), Maps.greatest(), Maps.full(), Maps.frame(), fan(12))) {
            int sum = 0;
            for (int v = 0; v < m.vertices(); v++) {
                sum += m.degree(v);
            }
            CHECKS.same("14 each edge has two", sum, 2 * m.edges());
        }
    }

    // ---- components

    private static void components() {
        SegmentMap m = new SegmentMap();
        for (int i = 0; i < 11; i++) {
            m.add(0, 10 * i, 100, 10 * i);
            CHECKS.same("9 apart", m.components(), i + 1);
        }
        m.add(50, 0, 50, 100);
        CHECKS.same("9 all joined by the twelfth", m.components(), 1);
        m.remove(11);
        m.add(100, 10, 100, 90);
        CHECKS.same("9 all but two joined at their ends", m.components(), 3);
        m.remove(11);
        m.add(0, 1, 100, 9);
        CHECKS.same("9 between the others", m.components(), 12);
        CHECKS.same("9 full", Maps.full().components(), 12);
        CHECKS.same("9 greatest", Maps.greatest().components(), 1);
        CHECKS.same("9 star", Maps.star().components(), 1);
        CHECKS.same("9 one common end", fan(12).components(), 1);
        CHECKS.same("9 in a row", Maps.of(0, 0, 50, 0, 50, 0, 100, 0).components(), 1);
        CHECKS.same("9 a gap in the row", Maps.of(0, 0, 49, 0, 50, 0, 100, 0).components(), 2);
    }

    /** One in a face of the other, or just beside it, is another component. */
    private static void componentsThatDoNotMeet() {
        SegmentMap m = Maps.frame();
        CHECKS.same("9 frame", m.components(), 1);
        m.add(1, 1, 99, 1);
        CHECKS.same("9 in the frame", m.components(), 2);
        m.add(1, 99, 99, 99);
        CHECKS.same("9 two in the frame", m.components(), 3);
        m.add(1, 1, 1, 99);
        CHECKS.same("9 these joined", m.components(), 2);
        m.add(0, 50, 2, 50);
        CHECKS.same("9 joined to the frame", m.components(), 1);
        m.remove(7);
        m.remove(6);
        m.remove(1);
        CHECKS.same("9 three again", m.components(), 3);
    }
}
