import java.util.ArrayList;

/**
 * An arrangement of at most 12 segments in the plane, in exact fractions: its vertices, edges and
 * faces, which of the segments meet, the face in which a point lies, and the segments that a
 * vertical line crosses, from below upward.
 *
 * <p>Each edge is kept with two sides, each with a direction in which its face is on the left: side
 * 2 * e goes along edge e and has the face on the left of the edge, side 2 * e + 1 goes back and has
 * the face on its right.
 */
public final class SegmentMap {
    public static final int NONE = -1;

    private static final int HIGHEST = 100;
    private static final int MOST_SEGMENTS = 12;
    // Two ends of each segment and one point of each pair: 2 * 12 + 66.
    private static final int MOST_VERTICES = 90;
    // A segment bears at most two ends and one point with each of the 11 others: 12 * 12 pieces.
    private static final int MOST_EDGES = 144;
    private static final int MOST_SIDES = 2 * MOST_EDGES;
    // The n-th segment meets at most n - 1 others, so it divides at most n - 2 faces: 1 + 55.
    private static final int MOST_FACES = 56;
    // Far above what Euclid's rule needs for two numbers of 32 bits.
    private static final int MOST_DIVISIONS = 100;

    private final ArrayList<Segment> lines;
    private final Segment noLine;
    private final Vertices corners;
    private final Edges pieces;
    private final Faces regions;
    private final Row bySlope;
    private final Point probe;
    private int componentCount;

    public SegmentMap() {
        lines = new ArrayList<>();
        noLine = new Segment(0, 0, 0, 0);
        corners = new Vertices();
        pieces = new Edges();
        regions = new Faces();
        bySlope = new Row(MOST_SEGMENTS);
        probe = new Point();
        rebuild();
    }

    // ---- segments

    public int add(int x1, int y1, int x2, int y2)
            throws IllegalArgumentException, IllegalStateException {
        checkCoordinate(x1);
        checkCoordinate(y1);
        checkCoordinate(x2);
        checkCoordinate(y2);
        if (x1 == x2 && y1 == y2) {
            throw new IllegalArgumentException("both ends are the same point");
        }
        if (lines.size() >= MOST_SEGMENTS) {
            throw new IllegalStateException("there are 12 segments");
        }
        Segment made = new Segment(x1, y1, x2, y2);
        if (overlapsAnyLine(made)) {
            throw new IllegalStateException("more than one point in common with another segment");
        }
        lines.add(made);
        rebuild();
        return lines.size() - 1;
    }

    public int remove(int segment) throws IndexOutOfBoundsException {
        checkSegment(segment);
        lines.remove(segment);
        rebuild();
        return lines.size();
    }

    public int segments() {
        return lines.size();
    }

    public boolean meet(int segment, int other) throws IndexOutOfBoundsException {
        checkSegment(segment);
        checkSegment(other);
        return lineAt(segment).touches(lineAt(other));
    }

    // ---- vertices and edges

    public int vertices() {
        return corners.count;
    }

    public int edges() {
        return pieces.count;
    }

    public int faces() {
        return regions.count;
    }

    public int components() {
        return componentCount;
    }

    public int xNumerator(int vertex) throws IndexOutOfBoundsException {
        checkVertex(vertex);
        return (int) corners.at(vertex).xOver;
    }

    public int xDenominator(int vertex) throws IndexOutOfBoundsException {
        checkVertex(vertex);
        return (int) corners.at(vertex).xUnder;
    }

    public int yNumerator(int vertex) throws IndexOutOfBoundsException {
        checkVertex(vertex);
        return (int) corners.at(vertex).yOver;
    }

    public int yDenominator(int vertex) throws IndexOutOfBoundsException {
        checkVertex(vertex);
        return (int) corners.at(vertex).yUnder;
    }

    public int degree(int vertex) throws IndexOutOfBoundsException {
        checkVertex(vertex);
        return corners.outgoing.get(vertex);
    }

    public int segmentOf(int edge) throws IndexOutOfBoundsException {
        checkEdge(edge);
        return pieces.line.get(edge);
    }

    public int from(int edge) throws IndexOutOfBoundsException {
        checkEdge(edge);
        return pieces.start.get(edge);
    }

    public int to(int edge) throws IndexOutOfBoundsException {
        checkEdge(edge);
        return pieces.end.get(edge);
    }

    // ---- faces

    public int leftOf(int edge) throws IndexOutOfBoundsException {
        checkEdge(edge);
        return pieces.face.get(2 * edge);
    }

    public int rightOf(int edge) throws IndexOutOfBoundsException {
        checkEdge(edge);
        return pieces.face.get(2 * edge + 1);
    }

    public int sides(int face) throws IndexOutOfBoundsException {
        checkFace(face);
        return regions.sideCount.get(face);
    }

    public int firstVertex(int face) throws IndexOutOfBoundsException {
        checkFace(face);
        return regions.first.get(face);
    }

    public int faceAt(int x, int y) throws IllegalArgumentException {
        checkCoordinate(x);
        checkCoordinate(y);
        probe.put(x, y, 1);
        for (int i = 0; i < lines.size(); i++) {
            if (lines.get(i).holds(probe)) {
                return NONE;
            }
        }
        return faceLeftOf(probe);
    }

    // ---- a vertical line

    public int crossing(int x) throws IllegalArgumentException {
        checkCoordinate(x);
        int found = 0;
        for (int i = 0; i < lines.size(); i++) {
            if (lines.get(i).spans(x)) {
                found++;
            }
        }
        return found;
    }

    public int crossingAt(int x, int place)
            throws IllegalArgumentException, IndexOutOfBoundsException {
        checkCoordinate(x);
        for (int i = 0; i < lines.size(); i++) {
            if (lines.get(i).spans(x) && placeAt(x, i) == place) {
                return i;
            }
        }
        throw new IndexOutOfBoundsException("no such place");
    }

    private int placeAt(int x, int segment) {
        probe.put(x, 0, 1);
        int lower = 0;
        for (int i = 0; i < lines.size(); i++) {
            if (lines.get(i).spans(x) && isBefore(i, segment, probe)) {
                lower++;
            }
        }
        return lower;
    }

    private boolean isBefore(int segment, int other, Point p) {
        Segment a = lineAt(segment);
        Segment b = lineAt(other);
        int heights = a.compareHeights(b, p);
        if (heights != 0) {
            return heights < 0;
        }
        int slopes = a.compareSlopes(b);
        return slopes < 0 || (slopes == 0 && segment < other);
    }

    // ---- what a call's arguments must be

    private void checkCoordinate(int c) {
        if (c < 0 || c > HIGHEST) {
            throw new IllegalArgumentException("a coordinate is not from 0 to 100");
        }
    }

    private void checkSegment(int segment) {
        if (segment < 0 || segment >= lines.size()) {
            throw new IndexOutOfBoundsException("no such segment");
        }
    }

    private void checkVertex(int vertex) {
        if (vertex < 0 || vertex >= corners.count) {
            throw new IndexOutOfBoundsException("no such vertex");
        }
    }

    private void checkEdge(int edge) {
        if (edge < 0 || edge >= pieces.count) {
            throw new IndexOutOfBoundsException("no such edge");
        }
    }

    private void checkFace(int face) {
        if (face < 0 || face >= regions.count) {
            throw new IndexOutOfBoundsException("no such face");
        }
    }

    // ---- the map that the segments make

    private Segment lineAt(int segment) {
        return segment >= 0 && segment < lines.size() ? lines.get(segment) : noLine;
    }

    private boolean overlapsAnyLine(Segment made) {
        for (int i = 0; i < lines.size(); i++) {
            if (lines.get(i).overlaps(made)) {
                return true;
            }
        }
        return false;
    }

    private void rebuild() {
        gatherVertices();
        gatherEdges();
        sortBySlope();
        spreadEdges();
        joinComponents();
        gatherFaces();
    }

    private void gatherVertices() {
        corners.clear();
        for (int i = 0; i < lines.size(); i++) {
            Segment line = lines.get(i);
            probe.put(line.startX, line.startY, 1);
            corners.include(probe);
            probe.put(line.endX, line.endY, 1);
            corners.include(probe);
            for (int j = 0; j < i; j++) {
                includeMeeting(line, lines.get(j));
            }
        }
    }

    private void includeMeeting(Segment line, Segment other) {
        // Where parallel ones meet, both have an end.
        if (!line.isParallel(other) && line.touches(other)) {
            line.putMeeting(other, probe);
            corners.include(probe);
        }
    }

    private void gatherEdges() {
        pieces.clear();
        for (int i = 0; i < lines.size(); i++) {
            int last = NONE;
            for (int v = 0; v < corners.count; v++) {
                if (lines.get(i).holds(corners.at(v))) {
                    if (last != NONE) {
                        pieces.append(i, last, v);
                    }
                    last = v;
                }
            }
        }
    }

    private void sortBySlope() {
        for (int i = 0; i < lines.size(); i++) {
            int place = i;
            while (place > 0 && lineAt(bySlope.get(place - 1)).compareSlopes(lines.get(i)) > 0) {
                bySlope.set(place, bySlope.get(place - 1));
                place--;
            }
            bySlope.set(place, i);
        }
    }

    /** Lays the sides that start at a vertex around it, counterclockwise from below. */
    private void spreadEdges() {
        corners.resetSides();
        // Ways to higher vertices go to the right or straight up, so they come before all ways back.
        for (int i = 0; i < lines.size(); i++) {
            spreadLine(bySlope.get(i), true);
        }
        for (int i = 0; i < lines.size(); i++) {
            spreadLine(bySlope.get(i), false);
        }
    }

    private void spreadLine(int segment, boolean forward) {
        for (int e = 0; e < pieces.count; e++) {
            if (pieces.line.get(e) == segment) {
                int vertex = forward ? pieces.start.get(e) : pieces.end.get(e);
                spreadSide(vertex, forward ? 2 * e : 2 * e + 1);
            }
        }
    }

    private void spreadSide(int vertex, int side) {
        if (corners.outgoing.get(vertex) == 0) {
            corners.lowest.set(vertex, side);
        } else {
            pieces.above.set(corners.top.get(vertex), side);
        }
        pieces.above.set(side, corners.lowest.get(vertex));
        corners.top.set(vertex, side);
        corners.outgoing.set(vertex, corners.outgoing.get(vertex) + 1);
    }

    private void joinComponents() {
        componentCount = corners.count;
        for (int e = 0; e < pieces.count; e++) {
            int one = corners.root.get(pieces.start.get(e));
            int other = corners.root.get(pieces.end.get(e));
            if (one != other) {
                corners.join(Math.min(one, other), Math.max(one, other));
                componentCount--;
            }
        }
    }

    /**
     * Goes through the vertices rising, and around each from below upward. So every face is met at
     * its first vertex, there at its lowest place, and the face around a component is met before it.
     */
    private void gatherFaces() {
        regions.clear();
        for (int v = 0; v < corners.count; v++) {
            if (corners.root.get(v) == v) {
                // Nothing of the component lies further left, so its top side looks outward.
                paintBorder(corners.top.get(v), faceLeftOf(corners.at(v)));
            }
            int side = corners.lowest.get(v);
            for (int i = 0; i < corners.outgoing.get(v); i++) {
                if (pieces.face.get(side) == NONE) {
                    paintBorder(side, regions.append(v));
                }
                side = pieces.above.get(side);
            }
        }
    }

    /** Walks backward along a border with its face on the left, until the walk closes. */
    private void paintBorder(int first, int face) {
        int side = first;
        for (int i = 0; i < MOST_SIDES && pieces.face.get(side) == NONE; i++) {
            pieces.face.set(side, face);
            regions.countSide(face);
            side = pieces.above.get(side) ^ 1;
        }
    }

    /** Returns the face that lies immediately to the left of a point. */
    private int faceLeftOf(Point p) {
        int nearest = NONE;
        for (int e = 0; e < pieces.count; e++) {
            if (isUnder(e, p) && (nearest == NONE || isHigher(e, nearest, p))) {
                nearest = e;
            }
        }
        return nearest == NONE ? 0 : pieces.face.get(2 * nearest);
    }

    private boolean isUnder(int edge, Point p) {
        return corners.at(pieces.start.get(edge)).compareX(p) < 0
                && corners.at(pieces.end.get(edge)).compareX(p) >= 0
                && lineAt(pieces.line.get(edge)).compareHeight(p) < 0;
    }

    private boolean isHigher(int edge, int other, Point p) {
        Segment a = lineAt(pieces.line.get(edge));
        Segment b = lineAt(pieces.line.get(other));
        int heights = a.compareHeights(b, p);
        // Of two that run together there, the less steep one comes from above.
        return heights > 0 || (heights == 0 && a.compareSlopes(b) < 0);
    }

    /** A row of numbers in which every index is looked at before it is used. */
    private static final class Row {
        private final int[] cells;

        Row(int length) {
            cells = new int[length < 0 ? 0 : length];
        }

        int get(int index) {
            return index >= 0 && index < cells.length ? cells[index] : NONE;
        }

        void set(int index, int value) {
            if (index >= 0 && index < cells.length) {
                cells[index] = value;
            }
        }
    }

    /** A point with coordinates in lowest terms; longs, as products of them outgrow an int. */
    private static final class Point {
        private long xOver = 0;
        private long xUnder = 1;
        private long yOver = 0;
        private long yUnder = 1;

        void put(long x, long y, long divisor) {
            if (divisor == 0) {
                return;
            }
            long sign = divisor < 0 ? -1 : 1;
            long xShared = sign * commonDivisor(x, divisor);
            long yShared = sign * commonDivisor(y, divisor);
            if (xShared == 0 || yShared == 0) {
                return;
            }
            xOver = x / xShared;
            xUnder = divisor / xShared;
            yOver = y / yShared;
            yUnder = divisor / yShared;
        }

        void copy(Point p) {
            xOver = p.xOver;
            xUnder = p.xUnder;
            yOver = p.yOver;
            yUnder = p.yUnder;
        }

        int compareX(Point p) {
            return Long.compare(xOver * p.xUnder, p.xOver * xUnder);
        }

        int compareY(Point p) {
            return Long.compare(yOver * p.yUnder, p.yOver * yUnder);
        }

        int compareOrder(Point p) {
            int byX = compareX(p);
            return byX != 0 ? byX : compareY(p);
        }

        private static long commonDivisor(long a, long b) {
            long big = Math.abs(a);
            long small = Math.abs(b);
            for (int i = 0; i < MOST_DIVISIONS && small != 0; i++) {
                long rest = big % small;
                big = small;
                small = rest;
            }
            return big;
        }
    }

    /** A segment, from its lower vertex to its higher one. */
    private static final class Segment {
        private final int startX;
        private final int startY;
        private final int endX;
        private final int endY;
        private final long run;
        private final long rise;

        Segment(int x1, int y1, int x2, int y2) {
            boolean rising = x1 < x2 || (x1 == x2 && y1 < y2);
            startX = rising ? x1 : x2;
            startY = rising ? y1 : y2;
            endX = rising ? x2 : x1;
            endY = rising ? y2 : y1;
            run = endX - startX;
            rise = endY - startY;
        }

        /** Twice the area between both directions, above 0 if the other one is steeper. */
        private long turn(Segment other) {
            return run * other.rise - rise * other.run;
        }

        int compareSlopes(Segment other) {
            return Long.compare(0, turn(other));
        }

        boolean isParallel(Segment other) {
            return turn(other) == 0;
        }

        /** Where this one meets the other one's line, as a part of turn(other). */
        private long share(Segment other) {
            long right = other.startX - startX;
            long up = other.startY - startY;
            return right * other.rise - up * other.run;
        }

        boolean touches(Segment other) {
            long turn = turn(other);
            if (turn == 0) {
                return share(other) == 0 && commonStretch(other) >= 0;
            }
            return isPart(share(other), turn) && isPart(other.share(this), -turn);
        }

        boolean overlaps(Segment other) {
            return turn(other) == 0 && share(other) == 0 && commonStretch(other) > 0;
        }

        private static boolean isPart(long share, long whole) {
            return whole > 0 ? share >= 0 && share <= whole : share <= 0 && share >= whole;
        }

        /** Of two on one line: above 0 if they have many points in common, 0 if they have one. */
        private int commonStretch(Segment other) {
            int last = Math.min(rank(endX, endY), rank(other.endX, other.endY));
            int first = Math.max(rank(startX, startY), rank(other.startX, other.startY));
            return last - first;
        }

        /** Rises as vertices do: by x, then by y. */
        private static int rank(int x, int y) {
            return x * (HIGHEST + 1) + y;
        }

        void putMeeting(Segment other, Point p) {
            long turn = turn(other);
            long share = share(other);
            p.put(startX * turn + share * run, startY * turn + share * rise, turn);
        }

        /** This line's y at a point's x, as a part of run * p.xUnder. */
        private long height(Point p) {
            return startY * run * p.xUnder + (p.xOver - startX * p.xUnder) * rise;
        }

        /** Whether this line lies below (under 0) or above a point; 0 on any line through it. */
        int compareHeight(Point p) {
            return Long.compare(height(p) * p.yUnder, p.yOver * run * p.xUnder);
        }

        /** Compares the y of two lines that are not vertical at a point's x. */
        int compareHeights(Segment other, Point p) {
            return Long.compare(height(p) * other.run, other.height(p) * run);
        }

        boolean spans(int x) {
            return startX < endX && startX <= x && x <= endX;
        }

        boolean holds(Point p) {
            return startX * p.xUnder <= p.xOver && p.xOver <= endX * p.xUnder
                    && Math.min(startY, endY) * p.yUnder <= p.yOver
                    && p.yOver <= Math.max(startY, endY) * p.yUnder
                    && compareHeight(p) == 0;
        }
    }

    /** The vertices, rising, and of each the sides that start there. */
    private static final class Vertices {
        private final Point[] points;
        private final Point noPoint;
        private final Row outgoing;
        private final Row lowest;
        private final Row top;
        // The lowest vertex of the component.
        private final Row root;
        private int count;

        Vertices() {
            points = new Point[MOST_VERTICES];
            for (int i = 0; i < points.length; i++) {
                points[i] = new Point();
            }
            noPoint = new Point();
            outgoing = new Row(MOST_VERTICES);
            lowest = new Row(MOST_VERTICES);
            top = new Row(MOST_VERTICES);
            root = new Row(MOST_VERTICES);
            count = 0;
        }

        void clear() {
            count = 0;
        }

        Point at(int vertex) {
            return vertex >= 0 && vertex < points.length ? points[vertex] : noPoint;
        }

        void include(Point p) {
            int place = count;
            while (place > 0 && at(place - 1).compareOrder(p) >= 0) {
                place--;
            }
            boolean known = place < count && at(place).compareOrder(p) == 0;
            if (!known) {
                insert(place, p);
            }
        }

        private void insert(int place, Point p) {
            if (place < 0 || place > count || count >= points.length) {
                return;
            }
            // The point behind the last one is free; it moves, so that none is made anew.
            Point free = points[count];
            for (int i = count; i > place; i--) {
                points[i] = points[i - 1];
            }
            points[place] = free;
            free.copy(p);
            count++;
        }

        void resetSides() {
            for (int v = 0; v < count; v++) {
                outgoing.set(v, 0);
                lowest.set(v, NONE);
                top.set(v, NONE);
                root.set(v, v);
            }
        }

        void join(int low, int high) {
            for (int v = 0; v < count; v++) {
                if (root.get(v) == high) {
                    root.set(v, low);
                }
            }
        }
    }

    /** The edges, and of each of their sides the face and the next side around its start. */
    private static final class Edges {
        private final Row line;
        private final Row start;
        private final Row end;
        private final Row above;
        private final Row face;
        private int count;

        Edges() {
            line = new Row(MOST_EDGES);
            start = new Row(MOST_EDGES);
            end = new Row(MOST_EDGES);
            above = new Row(MOST_SIDES);
            face = new Row(MOST_SIDES);
            count = 0;
        }

        void clear() {
            count = 0;
        }

        void append(int segment, int low, int high) {
            line.set(count, segment);
            start.set(count, low);
            end.set(count, high);
            face.set(2 * count, NONE);
            face.set(2 * count + 1, NONE);
            count++;
        }
    }

    /** The faces, the one that is not bounded first. */
    private static final class Faces {
        private final Row first;
        private final Row sideCount;
        private int count;

        Faces() {
            first = new Row(MOST_FACES);
            sideCount = new Row(MOST_FACES);
            count = 0;
        }

        void clear() {
            count = 0;
            append(NONE);
        }

        int append(int vertex) {
            first.set(count, vertex);
            sideCount.set(count, 0);
            count++;
            return count - 1;
        }

        void countSide(int face) {
            sideCount.set(face, sideCount.get(face) + 1);
        }
    }
}
