import java.util.ArrayList;
import java.util.List;
import java.util.Map;
import java.util.TreeMap;
import java.util.function.IntUnaryOperator;

/** Each argument of each method at the ends of its range and beyond them, on maps of all sizes. */
final class ArgumentTests {
    private static final Checks CHECKS = new Checks("ArgumentTests");
    /** Just outside, and those that a careless product or cast would bring back inside. */
    private static final int[] NO_COORDINATES = {-1, 101, Integer.MIN_VALUE, Integer.MAX_VALUE, -100,
        256, 1 << 16, 1 << 30, Integer.MIN_VALUE + 50};

    private ArgumentTests() {
    }

    public static void main(String[] args) {
        TreeMap<String, SegmentMap> maps = new TreeMap<>(Map.of("new", new SegmentMap(),
                "emptied", Maps.emptied(Maps.greatest()), "one", Maps.of(0, 100, 100, 0),
                "upright", Maps.of(100, 0, 100, 100), "cross", Maps.cross(), "frame", Maps.frame(),
                "full", Maps.full(), "greatest", Maps.greatest(), "star", Maps.star()));
        maps.forEach(ArgumentTests::numbers);
        maps.forEach(ArgumentTests::coordinates);
        coordinatesInRange();
        firstAndLast();
        severalApplyToAdd();
        severalApplyToCrossingAt();
        CHECKS.finish();
    }

    // ---- numbers of segments, vertices, edges, faces and places

    /** A call with the number of one thing, of which there are so many. */
    private record Numbered(String name, int count, IntUnaryOperator call) {
    }

    private static int asInt(boolean answer) {
        return answer ? 1 : 0;
    }

    private static List<Numbered> readingCalls(SegmentMap m) {
        int last = m.segments() - 1;
        List<Numbered> calls = new ArrayList<>(List.of(
                new Numbered("10 xNumerator", m.vertices(), m::xNumerator),
                new Numbered("11 xDenominator", m.vertices(), m::xDenominator),
                new Numbered("12 yNumerator", m.vertices(), m::yNumerator),
                new Numbered("13 yDenominator", m.vertices(), m::yDenominator),
                new Numbered("14 degree", m.vertices(), m::degree),
                new Numbered("15 segmentOf", m.edges(), m::segmentOf),
                new Numbered("16 from", m.edges(), m::from),
                new Numbered("17 to", m.edges(), m::to)));
        calls.addAll(List.of(
                new Numbered("18 leftOf", m.edges(), m::leftOf),
                new Numbered("19 rightOf", m.edges(), m::rightOf),
                new Numbered("20 sides", m.faces(), m::sides),
                new Numbered("21 firstVertex", m.faces(), m::firstVertex),
                new Numbered("5 meet itself", m.segments(), s -> asInt(m.meet(s, s))),
                new Numbered("5 meet the first", m.segments(), s -> asInt(m.meet(s, 0))),
                new Numbered("5 meet the last", m.segments(), s -> asInt(m.meet(last, s)))));
        for (int x : new int[] {0, 1, 50, 99, 100}) {
            calls.add(new Numbered("24 crossingAt " + x, m.crossing(x), place -> m.crossingAt(x, place)));
        }
        return calls;
    }

    private static void numbers(String name, SegmentMap m) {
        List<Numbered> calls = readingCalls(m);
        calls.add(new Numbered("3 remove", m.segments(), m::remove));
        for (Numbered n : calls) {
            String what = n.name + " of " + name + " ";
            for (int wrong : new int[] {-1, n.count, n.count + 1, Integer.MIN_VALUE, Integer.MAX_VALUE,
                -n.count, 256, 1 << 16, 1 << 30, Integer.MIN_VALUE + 1}) {
                if (wrong != 0 || n.count == 0) {
                    CHECKS.noSuch(m, what + wrong, () -> n.call.applyAsInt(wrong));
                }
            }
        }
        for (Numbered n : readingCalls(m)) {
            for (int i = 0; i < n.count; i++) {
                int number = i;
                CHECKS.answers(n.name + " of " + name + " " + i, () -> n.call.applyAsInt(number));
            }
        }
    }

    /** What the first and the last of each kind answer, and those next to them. */
    private static void firstAndLast() {
        // 0: 0 0, 1: 0 10, 2: 0 100, 3: 5 5, 4: 10 0, 5: 10 10, 6: 100 0, 7: 100 100
        SegmentMap m = Maps.of(0, 0, 10, 10, 0, 10, 10, 0, 10, 0, 10, 10, 0, 100, 100, 100, 100, 0, 100, 100);
        CHECKS.same("10 ends", Rows.of(m.xNumerator(0), m.xNumerator(1), m.xNumerator(6), m.xNumerator(7)),
                Rows.of(0, 0, 100, 100));
        CHECKS.same("12 ends", Rows.of(m.yNumerator(0), m.yNumerator(1), m.yNumerator(6), m.yNumerator(7)),
                Rows.of(0, 10, 0, 100));
        CHECKS.same("11 ends", Rows.of(m.xDenominator(0), m.xDenominator(7)), Rows.of(1, 1));
        CHECKS.same("13 ends", Rows.of(m.yDenominator(0), m.yDenominator(7)), Rows.of(1, 1));
        CHECKS.same("14 ends", Rows.of(m.degree(0), m.degree(1), m.degree(6), m.degree(7)),
                Rows.of(1, 1, 1, 2));
        CHECKS.same("15 ends", Rows.of(m.segmentOf(0), m.segmentOf(1), m.segmentOf(5), m.segmentOf(6)),
                Rows.of(0, 0, 3, 4));
        CHECKS.same("16 ends", Rows.of(m.from(0), m.from(1), m.from(5), m.from(6)), Rows.of(0, 3, 2, 6));
        CHECKS.same("17 ends", Rows.of(m.to(0), m.to(1), m.to(5), m.to(6)), Rows.of(3, 5, 7, 7));
        CHECKS.same("18 ends", Rows.of(m.leftOf(0), m.leftOf(1), m.leftOf(4), m.leftOf(6)),
                Rows.of(0, 0, 1, 0));
        CHECKS.same("19 ends", Rows.of(m.rightOf(0), m.rightOf(1), m.rightOf(4), m.rightOf(6)),
                Rows.of(0, 1, 0, 0));
        CHECKS.same("20 ends", Rows.of(m.sides(0), m.sides(1)), Rows.of(11, 3));
        CHECKS.same("21 ends", Rows.of(m.firstVertex(0), m.firstVertex(1)), Rows.of(-1, 3));
        CHECKS.same("5 ends", Rows.of(asInt(m.meet(0, 4)), asInt(m.meet(4, 0)), asInt(m.meet(4, 4)),
                asInt(m.meet(3, 4)), asInt(m.meet(0, 1))), Rows.of(0, 0, 1, 1, 1));
        CHECKS.same("24 ends", Rows.of(m.crossingAt(0, 0), m.crossingAt(0, 1), m.crossingAt(0, 2),
                m.crossingAt(100, 0)), Rows.of(0, 1, 3, 3));
    }

    // ---- coordinates

    private static void coordinates(String name, SegmentMap m) {
        for (int c : NO_COORDINATES) {
            String what = name + " " + c;
            CHECKS.outOfRange(m, "2 x1 " + what, () -> m.add(c, 3, 4, 97));
            CHECKS.outOfRange(m, "2 y1 " + what, () -> m.add(3, c, 4, 97));
            CHECKS.outOfRange(m, "2 x2 " + what, () -> m.add(3, 4, c, 97));
            CHECKS.outOfRange(m, "2 y2 " + what, () -> m.add(3, 4, 97, c));
            CHECKS.outOfRange(m, "22 x " + what, () -> m.faceAt(c, 50));
            CHECKS.outOfRange(m, "22 y " + what, () -> m.faceAt(50, c));
            CHECKS.outOfRange(m, "22 x and y " + what, () -> m.faceAt(c, c));
            CHECKS.outOfRange(m, "23 x " + what, () -> m.crossing(c));
            CHECKS.outOfRange(m, "24 x " + what, () -> m.crossingAt(c, 0));
        }
        for (int c : new int[] {0, 1, 99, 100}) {
            CHECKS.answers("22 x " + c, () -> m.faceAt(c, 50));
            CHECKS.answers("22 y " + c, () -> m.faceAt(50, c));
            CHECKS.answers("23 x " + c, () -> m.crossing(c));
        }
    }

    private static void coordinatesInRange() {
        for (int c : new int[] {0, 1, 99, 100}) {
            CHECKS.same("2 x1 " + c, new SegmentMap().add(c, 3, 4, 97), 0);
            CHECKS.same("2 y1 " + c, new SegmentMap().add(3, c, 4, 97), 0);
            CHECKS.same("2 x2 " + c, new SegmentMap().add(3, 4, c, 97), 0);
            CHECKS.same("2 y2 " + c, new SegmentMap().add(3, 4, 97, c), 0);
            CHECKS.same("24 x " + c, Maps.of(0, 50, 100, 50).crossingAt(c, 0), 0);
        }
    }

    // ---- several exceptions at once: the one that the document lists first

    private static void severalApplyToAdd() {
        SegmentMap full = Maps.full();
        CHECKS.outOfRange(full, "2 a 13th that is a point", () -> full.add(50, 99, 50, 99));
        CHECKS.outOfRange(full, "2 a 13th that is a point of another", () -> full.add(0, 0, 0, 0));
        CHECKS.notNow(full, "2 a 13th along another", () -> full.add(0, 0, 100, 1));
        CHECKS.notNow(full, "2 a 13th along another, turned", () -> full.add(100, 1, 0, 0));
        SegmentMap corner = Maps.of(90, 90, 100, 100, 10, 10, 0, 0);
        CHECKS.outOfRange(corner, "2 along another, out of the square", () -> corner.add(95, 95, 101, 101));
        CHECKS.outOfRange(corner, "2 from out of the square", () -> corner.add(101, 101, 95, 95));
        CHECKS.outOfRange(corner, "2 along another, below 0", () -> corner.add(5, 5, -1, -1));
        CHECKS.outOfRange(corner, "2 from below 0", () -> corner.add(-1, -1, 5, 5));
        CHECKS.outOfRange(corner, "2 from below 0 to above 100", () -> corner.add(-1, -1, 101, 101));
        for (SegmentMap m : List.of(new SegmentMap(), corner, full)) {
            for (int c : NO_COORDINATES) {
                CHECKS.outOfRange(m, "2 a point outside " + c, () -> m.add(c, c, c, c));
                CHECKS.outOfRange(m, "2 a point beside " + c, () -> m.add(c, 50, c, 50));
                CHECKS.outOfRange(m, "2 a point above " + c, () -> m.add(50, c, 50, c));
            }
        }
    }

    private static void severalApplyToCrossingAt() {
        SegmentMap full = Maps.full();
        SegmentMap none = new SegmentMap();
        for (int c : NO_COORDINATES) {
            for (int place : new int[] {-1, 0, 11, 12, Integer.MIN_VALUE, Integer.MAX_VALUE}) {
                CHECKS.outOfRange(full, "24 full " + c + " " + place, () -> full.crossingAt(c, place));
                CHECKS.outOfRange(none, "24 none " + c + " " + place, () -> none.crossingAt(c, place));
            }
        }
    }
}
