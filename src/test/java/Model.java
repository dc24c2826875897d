import java.util.ArrayList;
import java.util.List;

/** The whole face of the document, with the oracle's answers and with the exceptions that are due. */
final class Model {
    private final List<int[]> lines = new ArrayList<>();
    private Oracle due = new Oracle(lines);

    // ---- segments

    int add(int x1, int y1, int x2, int y2) {
        inSquare(x1, y1, x2, y2);
        if (x1 == x2 && y1 == y2) {
            throw new IllegalArgumentException();
        }
        int[] line = {x1, y1, x2, y2};
        if (lines.size() == 12 || lines.stream().anyMatch(l -> Oracle.overlaps(l, line))) {
            throw new IllegalStateException();
        }
        lines.add(line);
        due = new Oracle(lines);
        return lines.size() - 1;
    }

    int remove(int segment) {
        lines.remove(below(lines.size(), segment));
        due = new Oracle(lines);
        return lines.size();
    }

    int segments() {
        return lines.size();
    }

    boolean meet(int segment, int other) {
        return due.meet(below(lines.size(), segment), below(lines.size(), other));
    }

    // ---- vertices and edges

    int vertices() {
        return due.vertices();
    }

    int edges() {
        return due.edges();
    }

    int faces() {
        return due.faces();
    }

    int components() {
        return due.components();
    }

    int xNumerator(int vertex) {
        return spot(vertex).x().over.intValueExact();
    }

    int xDenominator(int vertex) {
        return spot(vertex).x().under.intValueExact();
    }

    int yNumerator(int vertex) {
        return spot(vertex).y().over.intValueExact();
    }

    int yDenominator(int vertex) {
        return spot(vertex).y().under.intValueExact();
    }

    int degree(int vertex) {
        return due.degree(below(due.vertices(), vertex));
    }

    int segmentOf(int edge) {
        return due.edge(below(due.edges(), edge)).line();
    }

    int from(int edge) {
        return due.edge(below(due.edges(), edge)).start();
    }

    int to(int edge) {
        return due.edge(below(due.edges(), edge)).end();
    }

    // ---- faces

    int leftOf(int edge) {
        return due.leftOf(below(due.edges(), edge));
    }

    int rightOf(int edge) {
        return due.rightOf(below(due.edges(), edge));
    }

    int sides(int face) {
        return due.sides(below(due.faces(), face));
    }

    int firstVertex(int face) {
        return due.firstVertex(below(due.faces(), face));
    }

    int faceAt(int x, int y) {
        inSquare(x, y);
        return due.faceAt(x, y);
    }

    // ---- a vertical line

    int crossing(int x) {
        inSquare(x);
        return due.crossingsAt(x).size();
    }

    int crossingAt(int x, int place) {
        inSquare(x);
        List<Integer> found = due.crossingsAt(x);
        return found.get(below(found.size(), place));
    }

    // ---- what is refused

    private Oracle.Spot spot(int vertex) {
        return due.vertex(below(due.vertices(), vertex));
    }

    private static int below(int count, int number) {
        if (number < 0 || number >= count) {
            throw new IndexOutOfBoundsException();
        }
        return number;
    }

    private static void inSquare(int... coordinates) {
        for (int c : coordinates) {
            if (c < 0 || c > 100) {
                throw new IllegalArgumentException();
            }
        }
    }
}
