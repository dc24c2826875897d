import java.util.ArrayList;
import java.util.List;
import java.util.TreeMap;
import java.util.TreeSet;

/**
 * The answers that are due, found in another way than the program's: the plane is cut into upright
 * strips at every vertex; the segments cut a strip into cells; a face is what cells of neighbouring
 * strips make together where no vertical segment parts them.
 */
final class Oracle {
    /** Far below and far above every segment. */
    private static final Fraction BOTTOM = Fraction.of(-1000);
    private static final Fraction TOP = Fraction.of(1000);

    record Spot(Fraction x, Fraction y) implements Comparable<Spot> {
        @Override
        public int compareTo(Spot s) {
            int byX = x.compareTo(s.x);
            return byX != 0 ? byX : y.compareTo(s.y);
        }
    }

    record Piece(int line, int start, int end) {
    }

    private final List<int[]> lines;
    private final List<Spot> spots = new ArrayList<>();
    private final List<Piece> pieces = new ArrayList<>();
    private final List<Fraction> cuts = new ArrayList<>();
    /** The segments of each strip, from below upward; strip k lies left of cut k. */
    private final List<List<Integer>> strips = new ArrayList<>();
    private final List<Integer> firstCell = new ArrayList<>();
    private int[] joined;
    private final TreeMap<Integer, Integer> faceOfCell = new TreeMap<>();
    private final List<Integer> firstVertices = new ArrayList<>();

    static Oracle of(int... ends) {
        List<int[]> lines = new ArrayList<>();
        for (int i = 0; i < ends.length; i += 4) {
            lines.add(new int[] {ends[i], ends[i + 1], ends[i + 2], ends[i + 3]});
        }
        return new Oracle(lines);
    }

    Oracle(List<int[]> lines) {
        this.lines = lines;
        findVertices();
        findEdges();
        cutStrips();
        joinCells();
        numberFaces();
    }

    // ---- segments

    private static boolean isVertical(int[] line) {
        return line[0] == line[2];
    }

    private static boolean isOn(int[] line, Spot s) {
        if (isVertical(line)) {
            return s.x.compareTo(Fraction.of(line[0])) == 0
                    && s.y.compareTo(Fraction.of(Math.min(line[1], line[3]))) >= 0
                    && s.y.compareTo(Fraction.of(Math.max(line[1], line[3]))) <= 0;
        }
        return reaches(line, s.x) && heightAt(line, s.x).compareTo(s.y) == 0;
    }

    private static boolean reaches(int[] line, Fraction x) {
        return x.compareTo(Fraction.of(Math.min(line[0], line[2]))) >= 0
                && x.compareTo(Fraction.of(Math.max(line[0], line[2]))) <= 0;
    }

    private static Fraction slope(int[] line) {
        return Fraction.of(line[3] - line[1], line[2] - line[0]);
    }

    private static Fraction heightAt(int[] line, Fraction x) {
        return Fraction.of(line[1]).plus(slope(line).times(x.plus(Fraction.of(-line[0]))));
    }

    /** The one point of two lines that are not parallel, by a x + b y = c. */
    private static Spot crossingOf(int[] p, int[] q) {
        long a1 = p[3] - p[1];
        long b1 = p[0] - p[2];
        long c1 = a1 * p[0] + b1 * p[1];
        long a2 = q[3] - q[1];
        long b2 = q[0] - q[2];
        long c2 = a2 * q[0] + b2 * q[1];
        long whole = a1 * b2 - a2 * b1;
        return whole == 0 ? null
                : new Spot(Fraction.of(c1 * b2 - c2 * b1, whole), Fraction.of(a1 * c2 - a2 * c1, whole));
    }

    private static List<Spot> commonSpots(int[] p, int[] q) {
        TreeSet<Spot> found = new TreeSet<>();
        for (Spot s : ends(p)) {
            if (isOn(q, s)) {
                found.add(s);
            }
        }
        for (Spot s : ends(q)) {
            if (isOn(p, s)) {
                found.add(s);
            }
        }
        Spot crossing = crossingOf(p, q);
        if (crossing != null && isOn(p, crossing) && isOn(q, crossing)) {
            found.add(crossing);
        }
        return new ArrayList<>(found);
    }

    private static List<Spot> ends(int[] line) {
        return List.of(new Spot(Fraction.of(line[0]), Fraction.of(line[1])),
                new Spot(Fraction.of(line[2]), Fraction.of(line[3])));
    }

    /** Two common ends of different segments mean a common stretch. */
    static boolean overlaps(int[] p, int[] q) {
        return commonSpots(p, q).size() > 1;
    }

    // ---- vertices and edges

    private void findVertices() {
        TreeSet<Spot> found = new TreeSet<>();
        for (int[] p : lines) {
            found.addAll(ends(p));
            for (int[] q : lines) {
                if (p != q) {
                    found.addAll(commonSpots(p, q));
                }
            }
        }
        spots.addAll(found);
    }

    private void findEdges() {
        for (int s = 0; s < lines.size(); s++) {
            int last = -1;
            for (int v = 0; v < spots.size(); v++) {
                if (isOn(lines.get(s), spots.get(v))) {
                    if (last >= 0) {
                        pieces.add(new Piece(s, last, v));
                    }
                    last = v;
                }
            }
        }
    }

    int components() {
        int[] root = upTo(spots.size());
        for (Piece p : pieces) {
            join(root, p.start, p.end);
        }
        int found = 0;
        for (int v = 0; v < root.length; v++) {
            if (rootOf(root, v) == v) {
                found++;
            }
        }
        return found;
    }

    private static int[] upTo(int count) {
        int[] row = new int[count];
        for (int i = 0; i < count; i++) {
            row[i] = i;
        }
        return row;
    }

    private static int rootOf(int[] root, int i) {
        int at = i;
        while (root[at] != at) {
            at = root[at];
        }
        return at;
    }

    private static void join(int[] root, int a, int b) {
        root[rootOf(root, a)] = rootOf(root, b);
    }

    // ---- strips, cells and faces

    private void cutStrips() {
        TreeSet<Fraction> found = new TreeSet<>();
        for (Spot s : spots) {
            found.add(s.x);
        }
        cuts.addAll(found);
        int cells = 0;
        for (int k = 0; k <= cuts.size(); k++) {
            strips.add(k == 0 || k == cuts.size() ? new ArrayList<>() : stripBetween(k));
            firstCell.add(cells);
            cells += strips.get(k).size() + 1;
        }
        joined = upTo(cells);
    }

    private List<Integer> stripBetween(int k) {
        Fraction middle = Fraction.middle(cuts.get(k - 1), cuts.get(k));
        List<Integer> inside = new ArrayList<>();
        for (int s = 0; s < lines.size(); s++) {
            if (!isVertical(lines.get(s)) && reaches(lines.get(s), middle)) {
                inside.add(s);
            }
        }
        inside.sort((a, b) -> heightAt(lines.get(a), middle).compareTo(heightAt(lines.get(b), middle)));
        return inside;
    }

    private Fraction lowOf(int strip, int cell, Fraction x) {
        return cell == 0 ? BOTTOM : heightAt(lines.get(strips.get(strip).get(cell - 1)), x);
    }

    private Fraction highOf(int strip, int cell, Fraction x) {
        List<Integer> inside = strips.get(strip);
        return cell == inside.size() ? TOP : heightAt(lines.get(inside.get(cell)), x);
    }

    private void joinCells() {
        for (int k = 0; k < cuts.size(); k++) {
            for (int left = 0; left <= strips.get(k).size(); left++) {
                for (int right = 0; right <= strips.get(k + 1).size(); right++) {
                    if (isOpen(k, left, right)) {
                        join(joined, firstCell.get(k) + left, firstCell.get(k + 1) + right);
                    }
                }
            }
        }
    }

    private boolean isOpen(int k, int left, int right) {
        Fraction x = cuts.get(k);
        Fraction low = max(lowOf(k, left, x), lowOf(k + 1, right, x));
        Fraction high = min(highOf(k, left, x), highOf(k + 1, right, x));
        if (low.compareTo(high) >= 0) {
            return false;
        }
        TreeSet<Fraction> marks = new TreeSet<>(List.of(low));
        marks.add(high);
        for (int[] line : lines) {
            if (isVertical(line) && Fraction.of(line[0]).equals(x)) {
                marks.add(Fraction.of(line[1]));
                marks.add(Fraction.of(line[3]));
            }
        }
        List<Fraction> row = new ArrayList<>(marks.subSet(low, true, high, true));
        for (int i = 1; i < row.size(); i++) {
            Spot middle = new Spot(x, Fraction.middle(row.get(i - 1), row.get(i)));
            if (lines.stream().noneMatch(line -> isVertical(line) && isOn(line, middle))) {
                return true;
            }
        }
        return false;
    }

    private static Fraction max(Fraction a, Fraction b) {
        return a.compareTo(b) >= 0 ? a : b;
    }

    private static Fraction min(Fraction a, Fraction b) {
        return a.compareTo(b) <= 0 ? a : b;
    }

    /** A face begins in its leftmost strip; rising by first vertex, there by its lowest cell. */
    private void numberFaces() {
        firstVertices.add(-1);
        faceOfCell.put(rootOf(joined, 0), 0);
        for (int v = 0; v < spots.size(); v++) {
            int k = cuts.indexOf(spots.get(v).x) + 1;
            for (int cell = 0; cell <= strips.get(k).size(); cell++) {
                int root = rootOf(joined, firstCell.get(k) + cell);
                boolean here = lowOf(k, cell, spots.get(v).x).equals(spots.get(v).y);
                if (here && !faceOfCell.containsKey(root)) {
                    faceOfCell.put(root, firstVertices.size());
                    firstVertices.add(v);
                }
            }
        }
    }

    private int faceOf(int strip, int cell) {
        return faceOfCell.get(rootOf(joined, firstCell.get(strip) + cell));
    }

    private int cellAt(int strip, Spot s) {
        int cell = 0;
        while (highOf(strip, cell, s.x).compareTo(s.y) < 0) {
            cell++;
        }
        return cell;
    }

    private int leftOf(Piece p) {
        int k = cuts.indexOf(spots.get(p.start).x);
        if (isVertical(lines.get(p.line))) {
            return faceOf(k, cellAt(k, middleOf(p)));
        }
        return faceOf(k + 1, strips.get(k + 1).indexOf(p.line) + 1);
    }

    private int rightOf(Piece p) {
        int k = cuts.indexOf(spots.get(p.start).x) + 1;
        if (isVertical(lines.get(p.line))) {
            return faceOf(k, cellAt(k, middleOf(p)));
        }
        return faceOf(k, strips.get(k).indexOf(p.line));
    }

    private Spot middleOf(Piece p) {
        Spot a = spots.get(p.start);
        Spot b = spots.get(p.end);
        return new Spot(Fraction.middle(a.x, b.x), Fraction.middle(a.y, b.y));
    }

    // ---- the answers

    int faceAt(int x, int y) {
        Spot s = new Spot(Fraction.of(x), Fraction.of(y));
        if (lines.stream().anyMatch(line -> isOn(line, s))) {
            return -1;
        }
        int strip = 0;
        while (strip < cuts.size() && cuts.get(strip).compareTo(s.x) < 0) {
            strip++;
        }
        return faceOf(strip, cellAt(strip, s));
    }

    List<Integer> crossingsAt(int x) {
        Fraction at = Fraction.of(x);
        List<Integer> found = new ArrayList<>();
        for (int s = 0; s < lines.size(); s++) {
            if (!isVertical(lines.get(s)) && reaches(lines.get(s), at)) {
                found.add(s);
            }
        }
        // The sort keeps the order of equals, which is that of the numbers.
        found.sort((a, b) -> {
            int byHeight = heightAt(lines.get(a), at).compareTo(heightAt(lines.get(b), at));
            return byHeight != 0 ? byHeight : slope(lines.get(a)).compareTo(slope(lines.get(b)));
        });
        return found;
    }

    int segments() {
        return lines.size();
    }

    boolean meet(int s, int t) {
        return s == t || !commonSpots(lines.get(s), lines.get(t)).isEmpty();
    }

    int vertices() {
        return spots.size();
    }

    Spot vertex(int v) {
        return spots.get(v);
    }

    int degree(int v) {
        return (int) pieces.stream().filter(p -> p.start == v || p.end == v).count();
    }

    int edges() {
        return pieces.size();
    }

    Piece edge(int e) {
        return pieces.get(e);
    }

    int leftOf(int e) {
        return leftOf(pieces.get(e));
    }

    int rightOf(int e) {
        return rightOf(pieces.get(e));
    }

    int faces() {
        return firstVertices.size();
    }

    int firstVertex(int f) {
        return firstVertices.get(f);
    }

    int sides(int f) {
        int found = 0;
        for (Piece p : pieces) {
            found += (leftOf(p) == f ? 1 : 0) + (rightOf(p) == f ? 1 : 0);
        }
        return found;
    }

    /** The same text as Picture.of makes of a map. */
    String picture() {
        StringBuilder text = new StringBuilder();
        text.append("segments ").append(segments()).append('\n');
        text.append("components ").append(components()).append('\n');
        for (int s = 0; s < segments(); s++) {
            text.append("meet ").append(s).append(':');
            for (int t = 0; t < segments(); t++) {
                text.append(' ').append(meet(s, t) ? t : -1);
            }
            text.append('\n');
        }
        for (int v = 0; v < vertices(); v++) {
            Spot s = vertex(v);
            text.append("vertex ").append(v).append(": ");
            text.append(s.x.over).append('/').append(s.x.under).append(' ');
            text.append(s.y.over).append('/').append(s.y.under);
            text.append(" degree ").append(degree(v)).append('\n');
        }
        int[] sides = new int[faces()];
        for (int e = 0; e < edges(); e++) {
            Piece p = edge(e);
            int left = leftOf(p);
            int right = rightOf(p);
            sides[left]++;
            sides[right]++;
            text.append("edge ").append(e).append(": segment ").append(p.line);
            text.append(", ").append(p.start).append(" to ").append(p.end);
            text.append(", left ").append(left).append(", right ").append(right).append('\n');
        }
        for (int f = 0; f < faces(); f++) {
            text.append("face ").append(f).append(": sides ").append(sides[f]);
            text.append(", first vertex ").append(firstVertex(f)).append('\n');
        }
        return text.toString();
    }
}
