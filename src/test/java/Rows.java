import java.util.Arrays;
import java.util.function.IntUnaryOperator;
import java.util.stream.IntStream;

/** Rows of answers as texts, to be compared at once. */
final class Rows {
    private Rows() {
    }

    static String of(int... numbers) {
        return Arrays.toString(numbers) + "\n";
    }

    static String vertices(SegmentMap map, IntUnaryOperator call) {
        return below(map.vertices(), call);
    }

    static String edges(SegmentMap map, IntUnaryOperator call) {
        return below(map.edges(), call);
    }

    static String faces(SegmentMap map, IntUnaryOperator call) {
        return below(map.faces(), call);
    }

    static String places(SegmentMap map, int x) {
        return below(map.crossing(x), place -> map.crossingAt(x, place));
    }

    static String below(int count, IntUnaryOperator call) {
        return of(IntStream.range(0, count).map(call).toArray());
    }
}
