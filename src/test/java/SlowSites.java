import java.math.BigInteger;
import java.util.ArrayList;
import java.util.Collections;
import java.util.Comparator;
import java.util.List;

/**
 * The document's words taken one by one, without regard to speed: every circle through three sites is
 * looked at, by its centre, so that nothing here is worked out the way FannedSites does it.
 */
final class SlowSites {
    private static final int SLOTS = 20;

    /** A site, or a point seen from some middle. */
    private record Spot(int slot, BigInteger x, BigInteger y) {
        BigInteger cross(Spot other) {
            return x.multiply(other.y).subtract(y.multiply(other.x));
        }

        boolean isUpper() {
            return y.signum() > 0 || y.signum() == 0 && x.signum() > 0;
        }
    }

    /** The circle through three sites: its centre is (x / scale, y / scale), with a scale above 0. */
    private record Circle(BigInteger x, BigInteger y, BigInteger scale) {
        Spot seen(long[] point, int slot) {
            return new Spot(slot, big(point[0]).multiply(scale).subtract(x), big(point[1]).multiply(scale).subtract(y));
        }

        BigInteger squaredDistance(long[] point) {
            Spot spot = seen(point, 0);
            return spot.x.multiply(spot.x).add(spot.y.multiply(spot.y));
        }

        /** 1 when the point is farther inside than the site on the circle, 0 when both are on it, -1 outside. */
        int holds(long[] point, long[] onIt) {
            return squaredDistance(onIt).compareTo(squaredDistance(point));
        }
    }

    private record Corners(int first, int second, int third, int faceSize) {
        boolean has(int slot) {
            return slot == first || slot == second || slot == third;
        }

        int at(int k) {
            return k == 0 ? first : k == 1 ? second : third;
        }
    }

    private final long[][] points = new long[SLOTS][];
    private boolean known = false;
    private final List<List<Integer>> faces = new ArrayList<>();
    private final List<Corners> all = new ArrayList<>();
    private final List<Integer> edge = new ArrayList<>();

    int insert(int x, int y) {
        if (isBad(x, y)) {
            return -2;
        }
        if (at(x, y) >= 0) {
            return -3;
        }
        for (int slot = 0; slot < SLOTS; slot++) {
            if (points[slot] == null) {
                points[slot] = new long[] {x, y};
                known = false;
                return slot;
            }
        }
        return -4;
    }

    boolean remove(int slot) {
        if (!has(slot)) {
            return false;
        }
        points[slot] = null;
        known = false;
        return true;
    }

    int move(int slot, int x, int y) {
        if (!has(slot)) {
            return -1;
        }
        if (isBad(x, y)) {
            return -2;
        }
        if (at(x, y) >= 0 && at(x, y) != slot) {
            return -3;
        }
        points[slot] = new long[] {x, y};
        known = false;
        return slot;
    }

    int sites() {
        return slots().size();
    }

    int coordinate(int slot, int axis) {
        return has(slot) && (axis == 0 || axis == 1) ? (int) points[slot][axis] : 2000000;
    }

    int triangles() {
        find();
        return all.size();
    }

    int triangle(int i) {
        find();
        return hasTriangle(i) ? all.get(i).first + 32 * all.get(i).second + 1024 * all.get(i).third : -1;
    }

    int number(int a, int b, int c) {
        find();
        for (int i = 0; i < all.size(); i++) {
            if (a != b && b != c && a != c && all.get(i).has(a) && all.get(i).has(b) && all.get(i).has(c)) {
                return i;
            }
        }
        return -1;
    }

    int across(int i, int k) {
        find();
        if (!hasTriangle(i) || k < 0 || k > 2) {
            return -1;
        }
        int p = all.get(i).at((k + 1) % 3);
        int q = all.get(i).at((k + 2) % 3);
        for (int j = 0; j < all.size(); j++) {
            if (j != i && all.get(j).has(p) && all.get(j).has(q)) {
                return j;
            }
        }
        return -1;
    }

    int corners(int i) {
        find();
        return hasTriangle(i) ? all.get(i).faceSize : -1;
    }

    int locate(int x, int y) {
        find();
        long[] point = {x, y};
        for (int i = 0; i < all.size() && !isBad(x, y); i++) {
            Corners t = all.get(i);
            if (cross(points[t.first], points[t.second], point) >= 0
                && cross(points[t.second], points[t.third], point) >= 0
                && cross(points[t.third], points[t.first], point) >= 0) {
                return i;
            }
        }
        return -1;
    }

    int nearest(int x, int y) {
        int best = -1;
        if (!isBad(x, y)) {
            for (int slot : slots()) {
                if (best < 0 || away(slot, x, y).compareTo(away(best, x, y)) < 0) {
                    best = slot;
                }
            }
        }
        return best;
    }

    int neighbours(int slot) {
        find();
        if (!has(slot)) {
            return -1;
        }
        int sum = 0;
        for (int other : slots()) {
            if (other != slot && (isFlat() ? nothingBetween(slot, other) : followInAFace(slot, other))) {
                sum += 1 << other;
            }
        }
        return sum;
    }

    int boundary(int i) {
        find();
        return i >= 0 && i < edge.size() ? edge.get(i) : -1;
    }

    int inside(int a, int b, int c, int d) {
        if (!has(a) || !has(b) || !has(c) || !has(d) || cross(points[a], points[b], points[c]) == 0) {
            return 2;
        }
        return circle(points[a], points[b], points[c]).holds(points[d], points[a]);
    }

    long area() {
        find();
        long sum = 0;
        for (Corners t : all) {
            sum += cross(points[t.first], points[t.second], points[t.third]);
        }
        return sum;
    }

    private void find() {
        if (known) {
            return;
        }
        known = true;
        faces.clear();
        all.clear();
        edge.clear();
        if (isFlat()) {
            edge.addAll(slots());
            edge.sort(this::whichIsEarlier);
            return;
        }
        findFaces();
        for (List<Integer> face : faces) {
            for (int i = 2; i < face.size(); i++) {
                all.add(new Corners(face.get(0), face.get(i - 1), face.get(i), face.size()));
            }
        }
        all.sort(Comparator.comparingInt(Corners::first).thenComparingInt(Corners::second)
            .thenComparingInt(Corners::third));
        findEdge();
    }

    private void findFaces() {
        List<Integer> slots = slots();
        for (int a : slots) {
            for (int b : slots) {
                for (int c : slots) {
                    if (a < b && b < c && cross(points[a], points[b], points[c]) != 0) {
                        addFaceOf(circle(points[a], points[b], points[c]), a);
                    }
                }
            }
        }
    }

    private void addFaceOf(Circle circle, int onIt) {
        BigInteger radius = circle.squaredDistance(points[onIt]);
        List<Spot> around = new ArrayList<>();
        for (int slot : slots()) {
            int compared = circle.squaredDistance(points[slot]).compareTo(radius);
            if (compared < 0) {
                return;
            }
            if (compared == 0) {
                around.add(circle.seen(points[slot], slot));
            }
        }
        List<Integer> face = roundFromEarliest(around);
        if (!faces.contains(face)) {
            faces.add(face);
        }
    }

    private void findEdge() {
        int[] three = {all.get(0).first, all.get(0).second, all.get(0).third};
        long x = points[three[0]][0] + points[three[1]][0] + points[three[2]][0];
        long y = points[three[0]][1] + points[three[1]][1] + points[three[2]][1];
        List<Spot> around = new ArrayList<>();
        for (int slot : slots()) {
            if (isOnEdge(slot)) {
                around.add(new Spot(slot, big(3 * points[slot][0] - x), big(3 * points[slot][1] - y)));
            }
        }
        edge.addAll(roundFromEarliest(around));
    }

    private boolean isOnEdge(int slot) {
        for (int other : slots()) {
            boolean keeps = other != slot;
            for (int third : slots()) {
                keeps = keeps && cross(points[slot], points[other], points[third]) >= 0;
            }
            if (keeps) {
                return true;
            }
        }
        return false;
    }

    private List<Integer> roundFromEarliest(List<Spot> around) {
        around.sort((p, q) -> p.isUpper() != q.isUpper() ? (p.isUpper() ? -1 : 1) : -p.cross(q).signum());
        List<Integer> slots = new ArrayList<>();
        for (Spot spot : around) {
            slots.add(spot.slot);
        }
        int earliest = Collections.min(slots, this::whichIsEarlier);
        Collections.rotate(slots, -slots.indexOf(earliest));
        return slots;
    }

    private boolean followInAFace(int p, int q) {
        for (List<Integer> face : faces) {
            int place = face.indexOf(p);
            int size = face.size();
            if (place >= 0 && (face.get((place + 1) % size) == q || face.get((place + size - 1) % size) == q)) {
                return true;
            }
        }
        return false;
    }

    private boolean nothingBetween(int p, int q) {
        for (int slot : slots()) {
            if (whichIsEarlier(p, slot) * whichIsEarlier(slot, q) > 0) {
                return false;
            }
        }
        return true;
    }

    private boolean isFlat() {
        List<Integer> slots = slots();
        for (int slot : slots) {
            if (cross(points[slots.get(0)], points[slots.get(slots.size() > 1 ? 1 : 0)], points[slot]) != 0) {
                return false;
            }
        }
        return true;
    }

    private int whichIsEarlier(int p, int q) {
        int byX = Long.compare(points[p][0], points[q][0]);
        return byX != 0 ? byX : Long.compare(points[p][1], points[q][1]);
    }

    private BigInteger away(int slot, int x, int y) {
        BigInteger dx = big(points[slot][0] - x);
        BigInteger dy = big(points[slot][1] - y);
        return dx.multiply(dx).add(dy.multiply(dy));
    }

    private List<Integer> slots() {
        List<Integer> slots = new ArrayList<>();
        for (int slot = 0; slot < SLOTS; slot++) {
            if (points[slot] != null) {
                slots.add(slot);
            }
        }
        return slots;
    }

    private boolean has(int slot) {
        return slots().contains(slot);
    }

    private boolean hasTriangle(int i) {
        return i >= 0 && i < all.size();
    }

    private int at(int x, int y) {
        for (int slot : slots()) {
            if (points[slot][0] == x && points[slot][1] == y) {
                return slot;
            }
        }
        return -1;
    }

    private static boolean isBad(int x, int y) {
        return Math.abs((long) x) > 1000000 || Math.abs((long) y) > 1000000;
    }

    private static long cross(long[] a, long[] b, long[] c) {
        return (b[0] - a[0]) * (c[1] - a[1]) - (b[1] - a[1]) * (c[0] - a[0]);
    }

    private static Circle circle(long[] a, long[] b, long[] c) {
        long[] second = cross(a, b, c) > 0 ? b : c;
        long[] third = cross(a, b, c) > 0 ? c : b;
        BigInteger la = big(a[0] * a[0] + a[1] * a[1]);
        BigInteger lb = big(second[0] * second[0] + second[1] * second[1]);
        BigInteger lc = big(third[0] * third[0] + third[1] * third[1]);
        BigInteger x = la.multiply(big(second[1] - third[1])).add(lb.multiply(big(third[1] - a[1])))
            .add(lc.multiply(big(a[1] - second[1])));
        BigInteger y = la.multiply(big(third[0] - second[0])).add(lb.multiply(big(a[0] - third[0])))
            .add(lc.multiply(big(second[0] - a[0])));
        return new Circle(x, y, big(2 * cross(a, second, third)));
    }

    private static BigInteger big(long value) {
        return BigInteger.valueOf(value);
    }
}
