/** What the tests of single sentences share: sets of sites, and what is looked at in each of them. */
abstract class SiteChecks {
    static final Due DUE = new Due();
    static final int NONE = FannedSites.NONE;
    static final int LEAST = Integer.MIN_VALUE;
    static final int MOST = Integer.MAX_VALUE;
    /** The end of the coordinates' range. */
    static final int END = 1000000;
    /** No coordinates, just beyond the range and as far as an int goes. */
    static final int[] FAR = {LEAST, LEAST + 1, -2000000, -1000001, 1000001, 2000000, MOST - 1, MOST};
    /** No slots, whatever the set; the bits of some of them are those of a slot after a shift or a mask. */
    static final int[] NEVER_SLOTS = {LEAST, LEAST + 1, -32, -31, -1, 20, 21, 31, 32, 33, 64, 1024, MOST - 1, MOST};
    /** No numbers of triangles and no places on the boundary, whatever the set. */
    static final int[] NEVER_NUMBERS = {LEAST, LEAST + 1, -32, -1, 35, 36, 40, 64, 1024, MOST - 1, MOST};

    static FannedSites of(int... xy) {
        FannedSites x = new FannedSites();
        for (int i = 0; i < xy.length; i += 2) {
            DUE.same("insert(" + xy[i] + ", " + xy[i + 1] + ")", x.insert(xy[i], xy[i + 1]), i / 2);
        }
        return x;
    }

    /** Slots 0 to 3 are the corners of a square, counterclockwise. */
    static FannedSites square() {
        return of(0, 0, 4, 0, 4, 4, 0, 4);
    }

    /** Slots 0 to 3 are the corners of the coordinates' range, counterclockwise. */
    static FannedSites wholeRange() {
        return of(-END, -END, END, -END, END, END, -END, END);
    }

    /** Twenty sites on a parabola, none of them within the hull. */
    static FannedSites full() {
        FannedSites x = new FannedSites();
        for (int slot = 0; slot < 20; slot++) {
            DUE.same("slot", x.insert(slot, slot * slot), slot);
        }
        return x;
    }

    /** Twenty sites with as many triangles as there can be, 35: only slots 0, 1 and 2 are on the boundary. */
    static FannedSites mostTriangles() {
        FannedSites x = of(-END, -END, END, -END, 0, END);
        for (int slot = 3; slot < 20; slot++) {
            DUE.same("slot", x.insert(37 * slot, slot * slot * slot), slot);
        }
        return x;
    }

    /** Each site is (dx, dy) behind the one of the slot before it. */
    static FannedSites line(int count, int x0, int y0, int dx, int dy) {
        FannedSites x = new FannedSites();
        for (int slot = 0; slot < count; slot++) {
            DUE.same("slot", x.insert(x0 + slot * dx, y0 + slot * dy), slot);
        }
        return x;
    }

    /** Twenty sites round the edge of the range, counterclockwise from slot 0, the earliest; each fifth is a corner. */
    static FannedSites frame() {
        FannedSites x = new FannedSites();
        for (int slot = 0; slot < 20; slot++) {
            int along = -END + slot % 5 * 400000;
            int[] ex = {along, END, -along, -END};
            int[] ey = {-END, along, END, -along};
            DUE.same("slot", x.insert(ex[slot / 5], ey[slot / 5]), slot);
        }
        return x;
    }

    /** Twenty sites counterclockwise on the widest circle within the range, the earliest in slot 0. */
    static FannedSites widestCircle() {
        int[] along = {-1000000, -960000, -800000, -600000, -280000, 0};
        FannedSites x = new FannedSites();
        for (int slot = 0; slot < 20; slot++) {
            int u = along[slot % 5];
            int v = along[5 - slot % 5];
            int[] cx = {u, -v, -u, v};
            int[] cy = {v, u, -v, -u};
            DUE.same("slot", x.insert(cx[slot / 5], cy[slot / 5]), slot);
        }
        return x;
    }

    static int code(int first, int second, int third) {
        return first + 32 * second + 1024 * third;
    }

    static int set(int... slots) {
        int sum = 0;
        for (int slot : slots) {
            sum += 1 << slot;
        }
        return sum;
    }

    static void boundaryIs(String what, FannedSites x, int... slots) {
        for (int i = 0; i < slots.length; i++) {
            DUE.same(what + ": boundary(" + i + ")", x.boundary(i), slots[i]);
        }
        DUE.same(what + ": boundary(" + slots.length + ")", x.boundary(slots.length), NONE);
    }

    static void trianglesAre(String what, FannedSites x, int... codes) {
        DUE.same(what + ": triangles()", x.triangles(), codes.length);
        for (int i = 0; i < codes.length; i++) {
            DUE.same(what + ": triangle(" + i + ")", x.triangle(i), codes[i]);
        }
        DUE.same(what + ": triangle(" + codes.length + ")", x.triangle(codes.length), NONE);
    }

    static void neighboursAre(String what, FannedSites x, int... sets) {
        for (int slot = 0; slot < sets.length; slot++) {
            DUE.same(what + ": neighbours(" + slot + ")", x.neighbours(slot), sets[slot]);
        }
    }

    /** What the set is and all that follows from it, asked in at most 118 calls. */
    static String all(FannedSites x) {
        StringBuilder text = new StringBuilder();
        text.append(x.sites()).append(" area ").append(x.area());
        for (int slot = 0; slot < 20; slot++) {
            text.append(' ').append(x.coordinate(slot, 0)).append(' ').append(x.coordinate(slot, 1));
            text.append(' ').append(x.neighbours(slot));
        }
        int count = x.triangles();
        for (int i = 0; i < count; i++) {
            text.append(" triangle ").append(x.triangle(i));
        }
        for (int i = 0; i < 20; i++) {
            text.append(" boundary ").append(x.boundary(i));
        }
        return text.toString();
    }

    static void unchanged(String what, FannedSites x, String before) {
        DUE.same(what + ": nothing has changed", all(x).equals(before), true);
    }
}
