/** The answers of a map, as a text, a line each kind. */
final class Picture {
    private Picture() {
    }

    static String of(SegmentMap map) {
        StringBuilder text = new StringBuilder();
        text.append("segments ").append(map.segments()).append('\n');
        text.append("components ").append(map.components()).append('\n');
        meetings(map, text);
        vertices(map, text);
        edges(map, text);
        faces(map, text);
        return text.toString();
    }

    /** With the answers about places that are not the map's own, too. */
    static String whole(SegmentMap map) {
        StringBuilder text = new StringBuilder(of(map));
        for (int x = 0; x <= 100; x += 10) {
            text.append("line ").append(x).append(':');
            for (int place = 0; place < map.crossing(x); place++) {
                text.append(' ').append(map.crossingAt(x, place));
            }
            text.append(", points");
            for (int y = 0; y <= 100; y += 10) {
                text.append(' ').append(map.faceAt(x, y));
            }
            text.append('\n');
        }
        return text.toString();
    }

    private static void meetings(SegmentMap map, StringBuilder text) {
        for (int s = 0; s < map.segments(); s++) {
            text.append("meet ").append(s).append(':');
            for (int t = 0; t < map.segments(); t++) {
                text.append(' ').append(map.meet(s, t) ? t : SegmentMap.NONE);
            }
            text.append('\n');
        }
    }

    private static void vertices(SegmentMap map, StringBuilder text) {
        for (int v = 0; v < map.vertices(); v++) {
            text.append("vertex ").append(v).append(": ");
            text.append(map.xNumerator(v)).append('/').append(map.xDenominator(v)).append(' ');
            text.append(map.yNumerator(v)).append('/').append(map.yDenominator(v));
            text.append(" degree ").append(map.degree(v)).append('\n');
        }
    }

    private static void edges(SegmentMap map, StringBuilder text) {
        for (int e = 0; e < map.edges(); e++) {
            text.append("edge ").append(e).append(": segment ").append(map.segmentOf(e));
            text.append(", ").append(map.from(e)).append(" to ").append(map.to(e));
            text.append(", left ").append(map.leftOf(e));
            text.append(", right ").append(map.rightOf(e)).append('\n');
        }
    }

    private static void faces(SegmentMap map, StringBuilder text) {
        for (int f = 0; f < map.faces(); f++) {
            text.append("face ").append(f).append(": sides ").append(map.sides(f));
            text.append(", first vertex ").append(map.firstVertex(f)).append('\n');
        }
    }
}
