/** Maps that several tests ask. */
final class Maps {
    private static final int[] LEFT = {0, 1, 3, 7, 12, 19, 27, 36, 47, 59, 72, 86};
    private static final int[] RIGHT = {99, 92, 84, 75, 67, 58, 49, 39, 30, 20, 11, 0};

    private Maps() {
    }

    static SegmentMap of(int... ends) {
        SegmentMap made = new SegmentMap();
        for (int i = 0; i < ends.length; i += 4) {
            made.add(ends[i], ends[i + 1], ends[i + 2], ends[i + 3]);
        }
        return made;
    }

    static SegmentMap cross() {
        return of(0, 0, 10, 10, 0, 10, 10, 0);
    }

    static SegmentMap triangle() {
        return of(0, 0, 20, 0, 20, 0, 10, 20, 10, 20, 0, 0);
    }

    /** The border of the whole square in which ends can lie. */
    static SegmentMap frame() {
        return of(0, 0, 100, 0, 100, 0, 100, 100, 100, 100, 0, 100, 0, 100, 0, 0);
    }

    /** As many segments as there can be, one above the other, with x from 0 to 100 each. */
    static SegmentMap full() {
        return of(fullEnds());
    }

    static int[] fullEnds() {
        int[] ends = new int[48];
        for (int i = 0; i < 12; i++) {
            put(ends, i, 8 * i, 8 * i + 1);
        }
        return ends;
    }

    /** Twelve lines, each pair with a point of its own: the most that there can be of everything. */
    static SegmentMap greatest() {
        return of(greatestEnds());
    }

    static int[] greatestEnds() {
        int[] ends = new int[48];
        for (int i = 0; i < 12; i++) {
            put(ends, i, LEFT[i], RIGHT[i]);
        }
        return ends;
    }

    private static void put(int[] ends, int segment, int left, int right) {
        ends[4 * segment] = 0;
        ends[4 * segment + 1] = left;
        ends[4 * segment + 2] = 100;
        ends[4 * segment + 3] = right;
    }

    /** Twelve segments through one point, so that one vertex has the greatest degree. */
    static SegmentMap star() {
        SegmentMap made = new SegmentMap();
        for (int y = 0; y <= 100; y += 10) {
            made.add(0, y, 100, 100 - y);
        }
        made.add(50, 0, 50, 100);
        return made;
    }

    /** A map that had segments and has none any more. */
    static SegmentMap emptied(SegmentMap map) {
        for (int left = map.segments(); left > 0; left--) {
            map.remove(left / 2);
        }
        return map;
    }
}
