import java.util.Arrays;

/** Sites in the plane with their one Delaunay triangulation, ties broken by fans; see README.md. */
public final class FannedSites {
    public static final int NONE = -1;
    public static final int BAD = -2;
    public static final int SAME = -3;
    public static final int FULL = -4;

    private static final int MOST_SITES = 20;
    private static final int REACH = 1000000;
    private static final int NO_COORDINATE = 2000000;
    private static final int NO_CIRCLE = 2;
    // n sites, h of them on the hull: 2n - 2 - h triangles and 3n - 3 - h edges, with h at least 3
    private static final int MOST_TRIANGLES = 2 * MOST_SITES - 5;
    private static final int MOST_EDGES = 3 * MOST_SITES - 6;
    // a slot fits into five bits
    private static final int SLOT_BITS = 5;
    private static final int SLOT_MASK = 31;
    // products of two 43 bit numbers are summed in digits of 15 bits: each digit's sum stays below 2^60
    private static final int DIGIT_BITS = 15;
    private static final long DIGIT_MASK = 32767L;

    private final Points points;
    private final Outline outline;
    private final Mesh mesh;
    // the outline and the mesh are made anew only when they are asked for after a change
    private boolean stale;

    public FannedSites() {
        points = new Points();
        outline = new Outline();
        mesh = new Mesh();
        stale = false;
    }

    public int insert(int x, int y) {
        if (!inReach(x, y)) {
            return BAD;
        }
        if (points.slotAt(x, y) != NONE) {
            return SAME;
        }
        int slot = points.freeSlot();
        if (slot == NONE) {
            return FULL;
        }
        points.put(slot, x, y);
        stale = true;
        return slot;
    }

    public boolean remove(int slot) {
        if (!points.has(slot)) {
            return false;
        }
        points.drop(slot);
        stale = true;
        return true;
    }

    public int move(int slot, int x, int y) {
        if (!points.has(slot)) {
            return NONE;
        }
        if (!inReach(x, y)) {
            return BAD;
        }
        int there = points.slotAt(x, y);
        if (there == slot) {
            return slot;
        }
        if (there != NONE) {
            return SAME;
        }
        points.drop(slot);
        points.put(slot, x, y);
        stale = true;
        return slot;
    }

    public int sites() {
        return points.size();
    }

    public int coordinate(int slot, int axis) {
        if (!points.has(slot) || axis < 0 || axis > 1) {
            return NO_COORDINATE;
        }
        return axis == 0 ? points.x(slot) : points.y(slot);
    }

    public int triangles() {
        refresh();
        return mesh.size();
    }

    public int triangle(int i) {
        refresh();
        if (!mesh.has(i)) {
            return NONE;
        }
        return mesh.corner(i, 0) + 32 * mesh.corner(i, 1) + 1024 * mesh.corner(i, 2);
    }

    public int number(int a, int b, int c) {
        if (!points.has(a) || !points.has(b) || !points.has(c)) {
            return NONE;
        }
        refresh();
        // two equal slots make a set of fewer than three, which no triangle is
        int wanted = 1 << a | 1 << b | 1 << c;
        for (int i = 0; i < mesh.size(); i++) {
            if (mesh.cornerSet(i) == wanted) {
                return i;
            }
        }
        return NONE;
    }

    public int across(int i, int k) {
        refresh();
        if (!mesh.has(i) || k < 0 || k > 2) {
            return NONE;
        }
        int edge = mesh.cornerSet(i) & ~(1 << mesh.corner(i, k));
        for (int other = 0; other < mesh.size(); other++) {
            if (other != i && (mesh.cornerSet(other) & edge) == edge) {
                return other;
            }
        }
        return NONE;
    }

    public int corners(int i) {
        refresh();
        return mesh.has(i) ? mesh.faceSize(i) : NONE;
    }

    public int locate(int x, int y) {
        if (!inReach(x, y)) {
            return NONE;
        }
        refresh();
        for (int i = 0; i < mesh.size(); i++) {
            if (covers(i, x, y)) {
                return i;
            }
        }
        return NONE;
    }

    public int nearest(int x, int y) {
        if (!inReach(x, y)) {
            return NONE;
        }
        int best = NONE;
        long least = 0;
        for (int slot = 0; slot < MOST_SITES; slot++) {
            if (points.has(slot)) {
                long distance = points.squaredDistance(slot, x, y);
                if (best == NONE || distance < least) {
                    best = slot;
                    least = distance;
                }
            }
        }
        return best;
    }

    public int neighbours(int slot) {
        if (!points.has(slot)) {
            return NONE;
        }
        refresh();
        return mesh.linkedTo(slot);
    }

    public int boundary(int i) {
        refresh();
        return i >= 0 && i < outline.size() ? outline.at(i) : NONE;
    }

    public int inside(int a, int b, int c, int d) {
        if (!points.has(a) || !points.has(b) || !points.has(c) || !points.has(d)) {
            return NO_CIRCLE;
        }
        int side = points.side(a, b, c);
        if (side == 0) {
            return NO_CIRCLE;
        }
        return side * points.circleSide(a, b, c, d);
    }

    public long area() {
        refresh();
        long sum = 0;
        for (int i = 2; i < outline.size(); i++) {
            sum += points.doubleArea(outline.at(0), outline.at(i - 1), outline.at(i));
        }
        return sum;
    }

    private void refresh() {
        if (stale) {
            outline.trace(points);
            mesh.begin(outline);
            mesh.spread(points);
            stale = false;
        }
    }

    private boolean covers(int i, int x, int y) {
        int a = mesh.corner(i, 0);
        int b = mesh.corner(i, 1);
        int c = mesh.corner(i, 2);
        return points.crossTo(a, b, x, y) >= 0
            && points.crossTo(b, c, x, y) >= 0
            && points.crossTo(c, a, x, y) >= 0;
    }

    private static boolean inReach(int x, int y) {
        return x >= -REACH && x <= REACH && y >= -REACH && y <= REACH;
    }

    private static int sign(long value) {
        return value > 0 ? 1 : value < 0 ? -1 : 0;
    }

    /** The sites by slot, and their slots in order, the earlier ones first. */
    private static final class Points {
        private final int[] xs = new int[MOST_SITES];
        private final int[] ys = new int[MOST_SITES];
        private final boolean[] taken = new boolean[MOST_SITES];
        private final int[] order = new int[MOST_SITES];
        private int size = 0;

        int size() {
            return size;
        }

        boolean has(int slot) {
            return slot >= 0 && slot < MOST_SITES && taken[slot];
        }

        int x(int slot) {
            return xs[slot];
        }

        int y(int slot) {
            return ys[slot];
        }

        /** The slot of the site with this place in the order. */
        int inOrder(int place) {
            return order[place];
        }

        int slotAt(int x, int y) {
            for (int slot = 0; slot < MOST_SITES; slot++) {
                if (taken[slot] && xs[slot] == x && ys[slot] == y) {
                    return slot;
                }
            }
            return NONE;
        }

        int freeSlot() {
            for (int slot = 0; slot < MOST_SITES; slot++) {
                if (!taken[slot]) {
                    return slot;
                }
            }
            return NONE;
        }

        /** The slot is free. */
        void put(int slot, int x, int y) {
            xs[slot] = x;
            ys[slot] = y;
            taken[slot] = true;
            int place = size;
            while (place > 0 && isEarlier(slot, order[place - 1])) {
                order[place] = order[place - 1];
                place--;
            }
            order[place] = slot;
            size++;
        }

        /** The slot has a site. */
        void drop(int slot) {
            taken[slot] = false;
            int kept = 0;
            for (int place = 0; place < size; place++) {
                if (order[place] != slot) {
                    order[kept] = order[place];
                    kept++;
                }
            }
            size = kept;
        }

        private boolean isEarlier(int a, int b) {
            return xs[a] < xs[b] || xs[a] == xs[b] && ys[a] < ys[b];
        }

        long squaredDistance(int slot, int x, int y) {
            long dx = xs[slot] - x;
            long dy = ys[slot] - y;
            return dx * dx + dy * dy;
        }

        /** Above 0 when the point is on the left of the way from a to b. */
        long crossTo(int a, int b, int x, int y) {
            long bx = xs[b] - xs[a];
            long by = ys[b] - ys[a];
            long px = x - xs[a];
            long py = y - ys[a];
            return bx * py - by * px;
        }

        long doubleArea(int a, int b, int c) {
            return crossTo(a, b, xs[c], ys[c]);
        }

        int side(int a, int b, int c) {
            return sign(crossTo(a, b, xs[c], ys[c]));
        }

        /** For a, b, c counterclockwise: 1 when d is inside their circle, 0 on it, -1 outside; else the negative. */
        int circleSide(int a, int b, int c, int d) {
            long ax = xs[a] - xs[d];
            long ay = ys[a] - ys[d];
            long bx = xs[b] - xs[d];
            long by = ys[b] - ys[d];
            long cx = xs[c] - xs[d];
            long cy = ys[c] - ys[d];
            return signOfProducts(
                ax * ax + ay * ay, bx * cy - by * cx,
                bx * bx + by * by, cx * ay - cy * ax,
                cx * cx + cy * cy, ax * by - ay * bx);
        }

        /** The sign of p * q + r * s + t * u, which a long can't hold; p, r and t are not negative. */
        private static int signOfProducts(long p, long q, long r, long s, long t, long u) {
            long low = (p & DIGIT_MASK) * q + (r & DIGIT_MASK) * s + (t & DIGIT_MASK) * u;
            p >>= DIGIT_BITS;
            r >>= DIGIT_BITS;
            t >>= DIGIT_BITS;
            long middle = (p & DIGIT_MASK) * q + (r & DIGIT_MASK) * s + (t & DIGIT_MASK) * u + (low >> DIGIT_BITS);
            p >>= DIGIT_BITS;
            r >>= DIGIT_BITS;
            t >>= DIGIT_BITS;
            long high = p * q + r * s + t * u + (middle >> DIGIT_BITS);
            // what is left of the lower digits is never negative and less than one of the high digit
            if (high != 0) {
                return sign(high);
            }
            return sign((middle | low) & DIGIT_MASK);
        }
    }

    /** The boundary. */
    private static final class Outline {
        // both chains of the hull stand in the row while they are made
        private final int[] row = new int[2 * MOST_SITES];
        private int size = 0;
        private boolean flat = true;

        int size() {
            return size;
        }

        boolean isFlat() {
            return flat;
        }

        int at(int i) {
            return row[i];
        }

        void trace(Points points) {
            size = 0;
            flat = allOnOneLine(points);
            int last = points.size() - 1;
            for (int place = 0; place <= last; place++) {
                push(points, points.inOrder(place));
            }
            if (flat) {
                return;
            }
            // on the way back no site is on the right of the lower chain, so that it stays as it is
            for (int place = last - 1; place >= 0; place--) {
                push(points, points.inOrder(place));
            }
            // the way has come back to its beginning, which counts once
            size--;
        }

        private static boolean allOnOneLine(Points points) {
            for (int place = 2; place < points.size(); place++) {
                if (points.side(points.inOrder(0), points.inOrder(1), points.inOrder(place)) != 0) {
                    return false;
                }
            }
            return true;
        }

        /** Sites at which the way to the new one would turn right go. */
        private void push(Points points, int slot) {
            while (size >= 2 && points.side(row[size - 2], row[size - 1], slot) < 0) {
                size--;
            }
            if (size < row.length) {
                row[size] = slot;
                size++;
            }
        }
    }

    /** The triangles in the order of their numbers, and who is whose neighbour. */
    private static final class Mesh {
        // the slots of the corners, the first one in the highest bits, so that keys sort as triangles do
        private final int[] keys = new int[MOST_TRIANGLES];
        private final int[] faceSizes = new int[MOST_TRIANGLES];
        private int size = 0;
        // bit b of links[a]: what is on the left of the way from a to its neighbour b is known
        private final int[] links = new int[MOST_SITES];
        // edges, as pairs of slots, on whose left there is a face that may not be known yet
        private final int[] waiting = new int[MOST_EDGES];
        private int waitingSize = 0;
        private final int[] ring = new int[MOST_SITES];
        private int ringSize = 0;

        int size() {
            return size;
        }

        boolean has(int i) {
            return i >= 0 && i < size;
        }

        int corner(int i, int k) {
            return keys[i] >> (2 - k) * SLOT_BITS & SLOT_MASK;
        }

        int cornerSet(int i) {
            return 1 << corner(i, 0) | 1 << corner(i, 1) | 1 << corner(i, 2);
        }

        int faceSize(int i) {
            return faceSizes[i];
        }

        int linkedTo(int slot) {
            return links[slot];
        }

        /** Without triangles yet; in a flat set no edge waits, so that none come. */
        void begin(Outline outline) {
            size = 0;
            waitingSize = 0;
            Arrays.fill(links, 0);
            if (outline.isFlat()) {
                linkLine(outline);
            } else {
                awaitOutline(outline);
            }
        }

        private void linkLine(Outline outline) {
            for (int i = 1; i < outline.size(); i++) {
                link(outline.at(i - 1), outline.at(i));
                link(outline.at(i), outline.at(i - 1));
            }
        }

        private void awaitOutline(Outline outline) {
            int from = outline.at(outline.size() - 1);
            for (int i = 0; i < outline.size(); i++) {
                int to = outline.at(i);
                // on the outer side there is nothing to find
                link(to, from);
                await(from, to);
                from = to;
            }
        }

        /** From face to face over their edges: all of them hang together. */
        void spread(Points points) {
            for (int step = 0; step < MOST_EDGES && waitingSize > 0; step++) {
                waitingSize--;
                int from = waiting[waitingSize] >> SLOT_BITS;
                int to = waiting[waitingSize] & SLOT_MASK;
                int apex = isLinked(from, to) ? NONE : apexOver(points, from, to);
                if (apex != NONE) {
                    gatherRing(points, from, to, apex);
                    addFace();
                }
            }
        }

        /** All corners of the face with these three, in their order. */
        private void gatherRing(Points points, int from, int to, int apex) {
            ringSize = 0;
            for (int place = 0; place < points.size(); place++) {
                int slot = points.inOrder(place);
                if (points.circleSide(from, to, apex, slot) == 0) {
                    addToRing(points, slot);
                }
            }
        }

        /** The site on the left of an edge whose circle with it has no other site of that side inside. */
        private static int apexOver(Points points, int from, int to) {
            int apex = NONE;
            for (int place = 0; place < points.size(); place++) {
                int slot = points.inOrder(place);
                if (points.side(from, to, slot) > 0
                    && (apex == NONE || points.circleSide(from, to, apex, slot) > 0)) {
                    apex = slot;
                }
            }
            return apex;
        }

        /** The earliest corner comes first and stays first; as seen from it the others go from right to left. */
        private void addToRing(Points points, int slot) {
            int place = ringSize;
            while (place > 1 && points.side(ring[0], slot, ring[place - 1]) > 0) {
                ring[place] = ring[place - 1];
                place--;
            }
            ring[place] = slot;
            ringSize++;
        }

        private void addFace() {
            for (int i = 2; i < ringSize; i++) {
                addTriangle(ring[0], ring[i - 1], ring[i]);
            }
            for (int i = 0; i < ringSize; i++) {
                int from = ring[i];
                int to = ring[i + 1 < ringSize ? i + 1 : 0];
                link(from, to);
                if (!isLinked(to, from)) {
                    await(to, from);
                }
            }
        }

        private void addTriangle(int first, int second, int third) {
            if (size >= MOST_TRIANGLES) {
                return;
            }
            int key = (first << SLOT_BITS | second) << SLOT_BITS | third;
            int place = size;
            while (place > 0 && keys[place - 1] > key) {
                keys[place] = keys[place - 1];
                faceSizes[place] = faceSizes[place - 1];
                place--;
            }
            keys[place] = key;
            faceSizes[place] = ringSize;
            size++;
        }

        private void link(int from, int to) {
            links[from] |= 1 << to;
        }

        private boolean isLinked(int from, int to) {
            return (links[from] >> to & 1) != 0;
        }

        private void await(int from, int to) {
            if (waitingSize < MOST_EDGES) {
                waiting[waitingSize] = from << SLOT_BITS | to;
                waitingSize++;
            }
        }
    }
}
