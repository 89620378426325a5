import java.util.ArrayList;
import java.util.List;
import java.util.Random;

/** Promises 1 to 17: long runs of calls, each answer compared with that of the plain model SlowSites. */
public final class ModelTest {
    private static final int CALLS = 512;
    private static final int[] WRONG = {-1, 20, 31, 32, 36, 64, 1000, -32, Integer.MIN_VALUE, Integer.MAX_VALUE};
    private static final int[] FAR = {1000001, -1000001, 2000000, Integer.MIN_VALUE, Integer.MAX_VALUE};
    private static final int[] EXTREMES = {-1000000, -999999, -1, 0, 1, 999999, 1000000};
    private static final Due DUE = new Due();

    /** Where the points of a run come from. */
    private enum Source { SMALL_GRID, GRID, CIRCLE, WIDE_CIRCLE, NEAR_CIRCLE, EXTREME, ANYWHERE, LINE }

    private final Random random;
    private final Source source;
    private final List<int[]> circle;
    private final FannedSites real = new FannedSites();
    private final SlowSites model = new SlowSites();
    private final int keepAbove;

    private ModelTest(long seed, Source source) {
        this.random = new Random(seed);
        this.source = source;
        this.circle = circleOf(source == Source.CIRCLE ? 65 : 5525, source == Source.CIRCLE ? 1 : 180);
        this.keepAbove = random.nextInt(20);
    }

    public static void main(String[] args) {
        for (Source source : Source.values()) {
            for (int run = 0; run < 12 && DUE.wrong() < 20; run++) {
                new ModelTest(1000L * source.ordinal() + run, source).runCalls(source + " " + run);
            }
        }
        DUE.end();
    }

    private void runCalls(String name) {
        int before = DUE.wrong();
        for (int call = 0; call < CALLS && DUE.wrong() == before; call++) {
            String where = name + ", call " + call + ": ";
            if (random.nextInt(4) == 0) {
                change(where);
            } else {
                ask(where);
            }
        }
    }

    private void change(String where) {
        int slot = slot();
        int[] p = point();
        int kind = random.nextInt(6);
        if (kind < 3 || kind == 3 && model.sites() < keepAbove) {
            DUE.same(where + "insert(" + p[0] + ", " + p[1] + ")", real.insert(p[0], p[1]), model.insert(p[0], p[1]));
        } else if (kind == 3) {
            DUE.same(where + "remove(" + slot + ")", real.remove(slot), model.remove(slot));
        } else {
            DUE.same(where + "move(" + slot + ", " + p[0] + ", " + p[1] + ")",
                real.move(slot, p[0], p[1]), model.move(slot, p[0], p[1]));
        }
    }

    private void ask(String where) {
        int i = triangleNumber();
        int k = random.nextInt(12) == 0 ? WRONG[random.nextInt(2)] + 4 * random.nextInt(2) : random.nextInt(3);
        int[] p = point();
        switch (random.nextInt(10)) {
            case 0 -> DUE.same(where + "triangles()", real.triangles(), model.triangles());
            case 1 -> DUE.same(where + "triangle(" + i + ")", real.triangle(i), model.triangle(i));
            case 2 -> DUE.same(where + "across(" + i + ", " + k + ")", real.across(i, k), model.across(i, k));
            case 3 -> DUE.same(where + "corners(" + i + ")", real.corners(i), model.corners(i));
            case 4 -> DUE.same(where + "locate(" + p[0] + ", " + p[1] + ")",
                real.locate(p[0], p[1]), model.locate(p[0], p[1]));
            case 5 -> DUE.same(where + "nearest(" + p[0] + ", " + p[1] + ")",
                real.nearest(p[0], p[1]), model.nearest(p[0], p[1]));
            case 6 -> DUE.same(where + "boundary(" + i + ")", real.boundary(i), model.boundary(i));
            case 7 -> DUE.same(where + "area()", real.area(), model.area());
            default -> askSlots(where);
        }
    }

    private void askSlots(String where) {
        int a = slot();
        int b = slot();
        int c = slot();
        int d = slot();
        int axis = random.nextInt(4) - 1;
        switch (random.nextInt(5)) {
            case 0 -> DUE.same(where + "sites()", real.sites(), model.sites());
            case 1 -> DUE.same(where + "coordinate(" + a + ", " + axis + ")",
                real.coordinate(a, axis), model.coordinate(a, axis));
            case 2 -> askNumber(where);
            case 3 -> DUE.same(where + "neighbours(" + a + ")", real.neighbours(a), model.neighbours(a));
            default -> DUE.same(where + "inside(" + a + ", " + b + ", " + c + ", " + d + ")",
                real.inside(a, b, c, d), model.inside(a, b, c, d));
        }
    }

    /** Any three slots are seldom a triangle, so most are taken from one and turned. */
    private void askNumber(String where) {
        int[] s = {slot(), slot(), slot()};
        int code = model.triangle(triangleNumber());
        if (code >= 0 && random.nextInt(3) != 0) {
            s = new int[] {code & 31, code >> 5 & 31, code >> 10};
        }
        int turn = random.nextInt(3);
        int a = s[turn];
        int b = s[(turn + 1 + random.nextInt(2)) % 3];
        int c = random.nextInt(10) == 0 ? b : s[0] + s[1] + s[2] - a - b;
        DUE.same(where + "number(" + a + ", " + b + ", " + c + ")", real.number(a, b, c), model.number(a, b, c));
    }

    private int slot() {
        return random.nextInt(25) == 0 ? WRONG[random.nextInt(WRONG.length)] : random.nextInt(20);
    }

    private int triangleNumber() {
        int some = random.nextInt(1 + Math.max(model.triangles(), model.sites()));
        return random.nextInt(25) == 0 ? WRONG[random.nextInt(WRONG.length)] : some;
    }

    private int[] point() {
        int[] p = pointOfSource();
        int kind = random.nextInt(40);
        if (kind < 2) {
            p[kind] = FAR[random.nextInt(FAR.length)];
        }
        return p;
    }

    private int[] pointOfSource() {
        switch (source) {
            case SMALL_GRID:
                return new int[] {random.nextInt(5), random.nextInt(5)};
            case GRID:
                return new int[] {random.nextInt(31) - 15, random.nextInt(31) - 15};
            case EXTREME:
                return new int[] {EXTREMES[random.nextInt(7)], EXTREMES[random.nextInt(7)]};
            case ANYWHERE:
                return new int[] {random.nextInt(2000001) - 1000000, random.nextInt(2000001) - 1000000};
            case LINE:
                int step = random.nextInt(41) - 20;
                return new int[] {step * 30000, step * -50000 + (random.nextInt(30) == 0 ? 1 : 0)};
            default:
                return nearCircle(circle.get(random.nextInt(circle.size())).clone());
        }
    }

    private int[] nearCircle(int[] p) {
        int kind = random.nextInt(source == Source.NEAR_CIRCLE ? 6 : 60);
        if (kind < 2) {
            p[kind] += random.nextBoolean() ? 1 : -1;
        } else if (kind == 2) {
            return new int[] {random.nextInt(5) - 2, random.nextInt(5) - 2};
        }
        return p;
    }

    private static List<int[]> circleOf(int radius, int scale) {
        List<int[]> found = new ArrayList<>();
        for (int x = -radius; x <= radius; x++) {
            int y = (int) Math.round(Math.sqrt((double) radius * radius - (double) x * x));
            if (x * x + y * y == radius * radius) {
                found.add(new int[] {x * scale, y * scale});
                found.add(new int[] {x * scale, -y * scale});
            }
        }
        return found;
    }
}
