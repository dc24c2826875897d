import java.lang.management.ManagementFactory;

/** How much a run makes: all calls of one run share one room, so only a new map may be dear. */
final class RoomTests {
    private static final Checks CHECKS = new Checks("RoomTests");
    private static final com.sun.management.ThreadMXBean MADE =
            (com.sun.management.ThreadMXBean) ManagementFactory.getThreadMXBean();
    private static int sum = 0;

    private RoomTests() {
    }

    public static void main(String[] args) {
        SegmentMap warm = Maps.greatest();
        askEverything(warm);
        addAndRemove(warm);
        bytes();
        long start = bytes();
        SegmentMap one = new SegmentMap();
        below("a new map", bytes() - start, 32_000);
        one.add(0, 0, 100, 100);
        SegmentMap full = Maps.greatest();
        start = bytes();
        askEverything(full);
        below("calls that only read", bytes() - start, 1_000);
        start = bytes();
        addAndRemove(full);
        below("512 calls of add and remove", bytes() - start, 512 * 64);
        CHECKS.same("each was asked", sum != 0, true);
        CHECKS.finish();
    }

    private static long bytes() {
        return MADE.getThreadAllocatedBytes(Thread.currentThread().getId());
    }

    private static void below(String what, long made, long bound) {
        CHECKS.same(what + " makes " + made + " bytes, at most " + bound, made <= bound, true);
    }

    /** No list, text or lambda here: it would be counted as the map's. */
    private static void askEverything(SegmentMap m) {
        for (int v = 0; v < m.vertices(); v++) {
            sum += m.xNumerator(v) + m.xDenominator(v) + m.yNumerator(v) + m.yDenominator(v) + m.degree(v);
        }
        for (int e = 0; e < m.edges(); e++) {
            sum += m.segmentOf(e) + m.from(e) + m.to(e) + m.leftOf(e) + m.rightOf(e);
        }
        for (int f = 0; f < m.faces(); f++) {
            sum += m.sides(f) + m.firstVertex(f) + m.components();
        }
        for (int s = 0; s < m.segments(); s++) {
            sum += m.meet(s, 0) ? 1 : 2;
        }
        for (int x = 0; x <= 100; x++) {
            for (int place = 0; place < m.crossing(x); place++) {
                sum += m.crossingAt(x, place) + m.faceAt(x, 7 * place);
            }
        }
    }

    private static void addAndRemove(SegmentMap m) {
        for (int i = 0; i < 256; i++) {
            sum += m.remove(11);
            sum += m.add(0, i % 2, 100, 100 - i % 2);
        }
    }
}
