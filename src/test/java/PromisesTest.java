/** Each promise by itself: ordinary inputs, the edges that the document names, and wrong inputs. */
public final class PromisesTest extends SiteChecks {
    private static final int[] NO_SLOTS = {-1, 4, 19, 20, 31, 32, 33, 64, LEAST, MOST};

    public static void main(String[] args) {
        newObject();
        insert();
        insertIntoFull();
        remove();
        move();
        moveChangesAllThatIsAsked();
        sites();
        coordinate();
        triangles();
        asManyAsThereCanBe();
        triangle();
        triangleOfManyCorners();
        number();
        across();
        corners();
        locate();
        nearest();
        neighbours();
        neighboursOnALine();
        boundary();
        boundaryOfALine();
        inside();
        insideIsExact();
        area();
        sameHoweverItCameAbout();
        DUE.end();
    }

    private static void newObject() {
        FannedSites x = new FannedSites();
        DUE.same("1: sites()", x.sites(), 0);
        DUE.same("1: triangles()", x.triangles(), 0);
        DUE.same("1: triangle(0)", x.triangle(0), -1);
        DUE.same("1: boundary(0)", x.boundary(0), -1);
        DUE.same("1: neighbours(0)", x.neighbours(0), -1);
        DUE.same("1: coordinate(0, 0)", x.coordinate(0, 0), 2000000);
        DUE.same("1: nearest(0, 0)", x.nearest(0, 0), -1);
        DUE.same("1: locate(0, 0)", x.locate(0, 0), -1);
        DUE.same("1: number(0, 0, 0)", x.number(0, 0, 0), -1);
        DUE.same("1: across(0, 0)", x.across(0, 0), -1);
        DUE.same("1: corners(0)", x.corners(0), -1);
        DUE.same("1: inside(0, 0, 0, 0)", x.inside(0, 0, 0, 0), 2);
        DUE.same("1: remove(0)", x.remove(0), false);
        DUE.same("1: move(0, 0, 0)", x.move(0, 0, 0), -1);
        DUE.same("1: area()", x.area(), 0);
        FannedSites y = new FannedSites();
        y.insert(1, 1);
        DUE.same("1: sites() of another object", x.sites(), 0);
    }

    private static void insert() {
        FannedSites x = of(1000000, 1000000, -1000000, -1000000, 0, 0);
        DUE.same("2: the same point", x.insert(0, 0), FannedSites.SAME);
        DUE.same("2: the same x alone", x.insert(0, 1), 3);
        DUE.same("2: the same y alone", x.insert(1, 0), 4);
        for (int far : FAR) {
            DUE.same("2: insert(" + far + ", 0)", x.insert(far, 0), FannedSites.BAD);
            DUE.same("2: insert(0, " + far + ")", x.insert(0, far), FannedSites.BAD);
        }
        DUE.same("2: sites after refused ones", x.sites(), 5);
        x.remove(3);
        x.remove(1);
        DUE.same("2: the least free slot", x.insert(8, 8), 1);
        DUE.same("2: the next free slot", x.insert(9, 9), 3);
        DUE.same("2: and behind the others", x.insert(10, 9), 5);
        DUE.same("2: a point that has become free", x.insert(0, 1), 6);
    }

    private static void insertIntoFull() {
        FannedSites x = full();
        DUE.same("2: full", x.insert(100, 100), FannedSites.FULL);
        DUE.same("2: same before full", x.insert(19, 361), FannedSites.SAME);
        DUE.same("2: bad before full", x.insert(1000001, 0), FannedSites.BAD);
        DUE.same("2: sites of a full one", x.sites(), 20);
        x.remove(19);
        DUE.same("2: no longer full", x.insert(100, 100), 19);
    }

    private static void remove() {
        FannedSites x = square();
        for (int slot : NO_SLOTS) {
            DUE.same("3: remove(" + slot + ")", x.remove(slot), false);
        }
        DUE.same("3: sites after refused ones", x.sites(), 4);
        trianglesAre("3: before", x, code(0, 1, 2), code(0, 2, 3));
        DUE.same("3: remove(0)", x.remove(0), true);
        DUE.same("3: remove(0) again", x.remove(0), false);
        DUE.same("3: sites()", x.sites(), 3);
        trianglesAre("3: after", x, code(3, 1, 2));
        DUE.same("3: remove(2)", x.remove(2), true);
        trianglesAre("3: two left", x);
        DUE.same("3: neighbours of two", x.neighbours(1), set(3));
        DUE.same("3: remove(1)", x.remove(1), true);
        DUE.same("3: remove(3)", x.remove(3), true);
        DUE.same("3: none left", x.sites(), 0);
        DUE.same("3: boundary of none", x.boundary(0), -1);
    }

    private static void move() {
        FannedSites x = square();
        for (int slot : NO_SLOTS) {
            DUE.same("4: move(" + slot + ", 9, 9)", x.move(slot, 9, 9), NONE);
            DUE.same("4: none before bad", x.move(slot, 1000001, 0), NONE);
            DUE.same("4: none before same", x.move(slot, 4, 4), NONE);
        }
        for (int far : FAR) {
            DUE.same("4: move(1, " + far + ", 0)", x.move(1, far, 0), FannedSites.BAD);
            DUE.same("4: move(1, 0, " + far + ")", x.move(1, 0, far), FannedSites.BAD);
        }
        DUE.same("4: another site's point", x.move(1, 4, 4), FannedSites.SAME);
        DUE.same("4: a refused one stays (x)", x.coordinate(1, 0), 4);
        DUE.same("4: a refused one stays (y)", x.coordinate(1, 1), 0);
        DUE.same("4: its own point", x.move(1, 4, 0), 1);
        DUE.same("4: the edge of the range", x.move(1, 1000000, -1000000), 1);
        DUE.same("4: moved (x)", x.coordinate(1, 0), 1000000);
        DUE.same("4: moved (y)", x.coordinate(1, 1), -1000000);
        DUE.same("4: sites()", x.sites(), 4);
        DUE.same("4: the point it left is free", x.insert(4, 0), 4);
        DUE.same("4: the point it took is not", x.insert(1000000, -1000000), FannedSites.SAME);
    }

    private static void moveChangesAllThatIsAsked() {
        FannedSites x = square();
        boundaryIs("4: before", x, 0, 1, 2, 3);
        DUE.same("4: move(0, 3, 3)", x.move(0, 3, 3), 0);
        boundaryIs("4: moved in", x, 3, 1, 2);
        DUE.same("4: area", x.area(), 16);
        DUE.same("4: move(0, 5, 5)", x.move(0, 5, 5), 0);
        boundaryIs("4: moved out", x, 3, 1, 0);
        trianglesAre("4: with 2 inside", x, code(1, 0, 2), code(3, 1, 2), code(3, 2, 0));
        DUE.same("4: a full one moves too", full().move(7, -5, -5), 7);
    }

    private static void sites() {
        FannedSites x = new FannedSites();
        for (int n = 0; n < 20; n++) {
            DUE.same("5: sites()", x.sites(), n);
            x.insert(n, 0);
        }
        DUE.same("5: sites()", x.sites(), 20);
        x.insert(0, 1);
        DUE.same("5: sites() after full", x.sites(), 20);
        x.move(3, 3, 3);
        DUE.same("5: sites() after a move", x.sites(), 20);
        x.remove(3);
        DUE.same("5: sites() after one went", x.sites(), 19);
    }

    private static void coordinate() {
        FannedSites x = of(3, -7, -1000000, 1000000, 0, 0, 5, 5);
        DUE.same("6: x", x.coordinate(0, 0), 3);
        DUE.same("6: y", x.coordinate(0, 1), -7);
        DUE.same("6: x at the edge", x.coordinate(1, 0), -1000000);
        DUE.same("6: y at the edge", x.coordinate(1, 1), 1000000);
        int[] noAxis = {-1, 2, 3, LEAST, MOST};
        for (int axis : noAxis) {
            DUE.same("6: axis " + axis, x.coordinate(0, axis), 2000000);
        }
        for (int slot : NO_SLOTS) {
            DUE.same("6: slot " + slot, x.coordinate(slot, 0), 2000000);
            DUE.same("6: slot " + slot, x.coordinate(slot, 1), 2000000);
        }
        x.remove(3);
        DUE.same("6: a slot that was left", x.coordinate(3, 0), 2000000);
    }

    private static void triangles() {
        FannedSites x = new FannedSites();
        int[] due = {0, 0, 0, 0, 2, 4};
        int[] ys = {0, 0, 0, 1000, -1000};
        int[] xs = {0, 1000, 500, 400, 600};
        for (int n = 0; n < 5; n++) {
            DUE.same("7: triangles() of " + n, x.triangles(), due[n]);
            x.insert(xs[n], ys[n]);
        }
        DUE.same("7: triangles() of 5", x.triangles(), 4);
        DUE.same("7: of 20 on a parabola", full().triangles(), 18);
        DUE.same("7: of three", of(0, 0, 1, 0, 0, 1).triangles(), 1);
        DUE.same("7: of three on a slanting line", of(-1000000, -999999, 0, 0, 1000000, 999999).triangles(), 0);
        DUE.same("7: of three almost on a line", of(-1000000, -999999, 0, 0, 1000000, 1000000).triangles(), 1);
    }

    /** Twenty sites, of which three are on the boundary, have as many triangles as there can be. */
    private static void asManyAsThereCanBe() {
        FannedSites x = mostTriangles();
        boundaryIs("7: three of twenty", x, 0, 1, 2);
        DUE.same("7: the most triangles", x.triangles(), 35);
        DUE.same("8: there is a triangle 34", x.triangle(34) >= 0, true);
        DUE.same("8: there is no triangle 35", x.triangle(35), NONE);
        long sum = 0;
        int links = 0;
        for (int slot = 0; slot < 20; slot++) {
            links += Integer.bitCount(x.neighbours(slot));
        }
        DUE.same("14: 54 edges, each from both ends", links, 108);
        for (int i = 0; i < 35; i++) {
            int t = x.triangle(i);
            DUE.same("9: number(triangle " + i + ")", x.number(t >> 10, t & 31, t >> 5 & 31), i);
            sum += doubleArea(x, t & 31, t >> 5 & 31, t >> 10);
        }
        DUE.same("8: the triangles cover the hull", sum, x.area());
    }

    private static long doubleArea(FannedSites x, int a, int b, int c) {
        long bx = x.coordinate(b, 0) - x.coordinate(a, 0);
        long by = x.coordinate(b, 1) - x.coordinate(a, 1);
        long cx = x.coordinate(c, 0) - x.coordinate(a, 0);
        long cy = x.coordinate(c, 1) - x.coordinate(a, 1);
        return bx * cy - by * cx;
    }

    private static void triangle() {
        trianglesAre("8: a square", square(), code(0, 1, 2), code(0, 2, 3));
        trianglesAre("8: a square put in the other way", of(4, 4, 0, 4, 0, 0, 4, 0), code(2, 0, 1), code(2, 3, 0));
        trianglesAre("8: of equal x the lesser y is earlier", of(1, 0, 0, 5, 0, 0), code(2, 0, 1));
        trianglesAre("8: by second, then by third corner",
            of(0, 0, 10, -9, 10, 9, 9, 0), code(0, 1, 3), code(0, 3, 2), code(3, 1, 2));
        trianglesAre("8: the other diagonal when it is shorter",
            of(0, 0, 4, 0, 5, 5, 0, 4), code(0, 1, 3), code(3, 1, 2));
        FannedSites x = square();
        int[] none = {-1, 2, 3, 34, 35, 36, LEAST, MOST};
        for (int i : none) {
            DUE.same("8: triangle(" + i + ")", x.triangle(i), NONE);
        }
    }

    /** Twelve sites on the circle of radius 5 round the middle, slot 11 the earliest; the fan has ten triangles. */
    private static void triangleOfManyCorners() {
        FannedSites x = of(-4, -3, -3, -4, 0, -5, 3, -4, 4, -3, 5, 0, 4, 3, 3, 4, 0, 5, -3, 4, -4, 3, -5, 0);
        DUE.same("8: triangles() of a fan", x.triangles(), 10);
        for (int i = 0; i < 10; i++) {
            DUE.same("8: triangle(" + i + ") of a fan", x.triangle(i), code(11, i, i + 1));
            DUE.same("11: corners(" + i + ") of a fan", x.corners(i), 12);
        }
        for (int slot = 0; slot < 12; slot++) {
            DUE.same("14: neighbours in a fan", x.neighbours(slot), set((slot + 1) % 12, (slot + 11) % 12));
        }
        DUE.same("10: across in a fan", x.across(4, 1), 5);
        DUE.same("10: across in a fan", x.across(4, 2), 3);
        DUE.same("10: across out of a fan", x.across(4, 0), -1);
    }

    private static void number() {
        FannedSites x = square();
        int[][] orders = {{0, 1, 2}, {0, 2, 1}, {1, 0, 2}, {1, 2, 0}, {2, 0, 1}, {2, 1, 0}};
        for (int[] o : orders) {
            DUE.same("9: number of 0, 1, 2", x.number(o[0], o[1], o[2]), 0);
            int[] other = {0, 2, 3};
            DUE.same("9: number of 0, 2, 3", x.number(other[o[0]], other[o[1]], other[o[2]]), 1);
        }
        DUE.same("9: no triangle of the fan", x.number(0, 1, 3), NONE);
        DUE.same("9: no triangle of the fan", x.number(1, 2, 3), NONE);
        DUE.same("9: a slot twice", x.number(0, 0, 1), NONE);
        DUE.same("9: a slot thrice", x.number(2, 2, 2), NONE);
        for (int slot : NO_SLOTS) {
            DUE.same("9: number with " + slot, x.number(slot, 1, 2), NONE);
            DUE.same("9: number with " + slot, x.number(0, slot, 2), NONE);
            DUE.same("9: number with " + slot, x.number(0, 1, slot), NONE);
        }
        DUE.same("9: a slot and 32", x.number(32, 1, 2), NONE);
        DUE.same("9: of a flat set", of(0, 0, 1, 1, 2, 2).number(0, 1, 2), NONE);
    }

    private static void across() {
        FannedSites x = of(0, 0, 10, -9, 10, 9, 9, 0);
        int[][] due = {{2, 1, -1}, {2, -1, 0}, {-1, 1, 0}};
        for (int i = 0; i < 3; i++) {
            for (int k = 0; k < 3; k++) {
                DUE.same("10: across(" + i + ", " + k + ")", x.across(i, k), due[i][k]);
            }
        }
        int[] noCorner = {-1, 3, 4, 32, LEAST, MOST};
        for (int k : noCorner) {
            DUE.same("10: across(0, " + k + ")", x.across(0, k), NONE);
        }
        int[] noTriangle = {-1, 3, 35, 36, LEAST, MOST};
        for (int i : noTriangle) {
            DUE.same("10: across(" + i + ", 0)", x.across(i, 0), NONE);
        }
        DUE.same("10: within a face", square().across(0, 1), 1);
        DUE.same("10: within a face", square().across(1, 2), 0);
    }

    private static void corners() {
        FannedSites x = of(0, 0, 4, 0, 4, 4, 0, 4, 9, 2);
        trianglesAre("11: a square and one more", x, code(0, 1, 2), code(0, 2, 3), code(1, 4, 2));
        DUE.same("11: corners(0)", x.corners(0), 4);
        DUE.same("11: corners(1)", x.corners(1), 4);
        DUE.same("11: corners(2)", x.corners(2), 3);
        int[] none = {-1, 3, 34, 35, 36, LEAST, MOST};
        for (int i : none) {
            DUE.same("11: corners(" + i + ")", x.corners(i), NONE);
        }
        x.move(4, 2, 2);
        DUE.same("11: corners(0) with one in the middle", x.corners(0), 3);
        DUE.same("11: of a flat set", of(0, 0, 1, 1, 2, 2).corners(0), NONE);
    }

    private static void locate() {
        FannedSites x = square();
        DUE.same("12: in the first", x.locate(3, 1), 0);
        DUE.same("12: in the second", x.locate(1, 3), 1);
        DUE.same("12: on the edge of both", x.locate(2, 2), 0);
        DUE.same("12: on an outer edge", x.locate(4, 3), 0);
        DUE.same("12: on an outer edge", x.locate(0, 3), 1);
        DUE.same("12: on a corner of both", x.locate(4, 4), 0);
        DUE.same("12: on a corner of the second", x.locate(0, 4), 1);
        int[][] out = {{5, 0}, {-1, 0}, {2, -1}, {2, 5}, {-4, -4}, {8, 8}, {1000000, 1000000}};
        for (int[] p : out) {
            DUE.same("12: outside", x.locate(p[0], p[1]), NONE);
        }
        FannedSites wide = wholeRange();
        DUE.same("12: the edge of the range", wide.locate(1000000, -1000000), 0);
        DUE.same("12: just beside the diagonal", wide.locate(999998, 999999), 1);
        DUE.same("12: just beside the diagonal", wide.locate(999999, 999998), 0);
        for (int f : FAR) {
            DUE.same("12: locate(" + f + ", 0)", wide.locate(f, 0), NONE);
            DUE.same("12: locate(0, " + f + ")", wide.locate(0, f), NONE);
        }
        DUE.same("12: on a flat set", of(0, 0, 2, 2, 4, 4).locate(2, 2), NONE);
    }

    private static void nearest() {
        FannedSites x = square();
        DUE.same("13: at a site", x.nearest(4, 4), 2);
        DUE.same("13: near a site", x.nearest(1, 3), 3);
        DUE.same("13: of four the least slot", x.nearest(2, 2), 0);
        DUE.same("13: of two the least slot", x.nearest(9, 2), 1);
        x.move(0, 100, 100);
        DUE.same("13: of three the least slot", x.nearest(2, 2), 1);
        for (int f : FAR) {
            DUE.same("13: nearest(" + f + ", 0)", x.nearest(f, 0), NONE);
            DUE.same("13: nearest(0, " + f + ")", x.nearest(0, f), NONE);
        }
        FannedSites wide = of(1000000, 1000000, -1000000, 999999);
        DUE.same("13: across the whole range", wide.nearest(-1000000, -1000000), 1);
        DUE.same("13: across the whole range", wide.nearest(1000000, -1000000), 0);
        DUE.same("13: an almost equal one", wide.nearest(0, -1000000), 1);
        wide.remove(1);
        DUE.same("13: one alone, as far as can be", wide.nearest(-1000000, -1000000), 0);
        wide.remove(0);
        DUE.same("13: none", wide.nearest(0, 0), NONE);
    }

    private static void neighbours() {
        FannedSites x = square();
        DUE.same("14: no diagonal in a face of four", x.neighbours(0), set(1, 3));
        DUE.same("14: no diagonal in a face of four", x.neighbours(2), set(1, 3));
        DUE.same("14: last and first too", x.neighbours(3), set(0, 2));
        for (int slot : NO_SLOTS) {
            DUE.same("14: neighbours(" + slot + ")", x.neighbours(slot), NONE);
        }
        DUE.same("14: insert", x.insert(2, 2), 4);
        DUE.same("14: of the middle", x.neighbours(4), set(0, 1, 2, 3));
        DUE.same("14: of a corner", x.neighbours(2), set(1, 3, 4));
        FannedSites many = full();
        many.move(19, 0, 1);
        DUE.same("14: slot 19 counts 2^19", many.neighbours(0) >> 19, 1);
    }

    private static void neighboursOnALine() {
        FannedSites x = of(4, 8, 0, 0, 2, 4, -1, -2);
        DUE.same("14: at the end of a line", x.neighbours(0), set(2));
        DUE.same("14: on a line", x.neighbours(1), set(2, 3));
        DUE.same("14: on a line", x.neighbours(2), set(0, 1));
        DUE.same("14: at the other end", x.neighbours(3), set(1));
        x.remove(1);
        DUE.same("14: on a line after one went", x.neighbours(3), set(2));
        FannedSites upright = of(5, 9, 5, -9, 5, 0);
        DUE.same("14: on an upright line", upright.neighbours(0), set(2));
        DUE.same("14: on an upright line", upright.neighbours(2), set(0, 1));
        DUE.same("14: of one alone", of(5, 5).neighbours(0), 0);
        DUE.same("14: of two", of(5, 5, 6, 6).neighbours(1), set(0));
    }

    private static void boundary() {
        boundaryIs("15: a square", of(4, 4, 0, 4, 0, 0, 4, 0), 2, 3, 0, 1);
        boundaryIs("15: one in the middle does not count", of(2, 2, 0, 0, 4, 0, 4, 4, 0, 4), 1, 2, 3, 4);
        boundaryIs("15: those between count", of(0, 0, 2, 0, 4, 0, 4, 2, 4, 4, 2, 4, 0, 4, 0, 2, 2, 2),
            0, 1, 2, 3, 4, 5, 6, 7);
        boundaryIs("15: between on a slanting edge above", of(0, 0, 9, 0, 9, 9, 3, 3, 6, 6, 6, 1), 0, 1, 2, 4, 3);
        boundaryIs("15: between on a slanting edge below", of(0, 0, 0, 9, 9, 9, 3, 3, 6, 6, 1, 6), 0, 3, 4, 2, 1);
        FannedSites x = square();
        int[] none = {-1, 4, 19, 20, 39, 40, 41, LEAST, MOST};
        for (int i : none) {
            DUE.same("15: boundary(" + i + ")", x.boundary(i), NONE);
        }
        FannedSites all = full();
        for (int i = 0; i < 20; i++) {
            DUE.same("15: all twenty", all.boundary(i), i);
        }
        DUE.same("15: behind all twenty", all.boundary(20), NONE);
    }

    private static void boundaryOfALine() {
        boundaryIs("15: one", of(7, 7), 0);
        boundaryIs("15: two", of(7, 7, 6, 9), 1, 0);
        boundaryIs("15: a falling line", of(3, -3, 0, 0, 1, -1, 2, -2), 1, 2, 3, 0);
        boundaryIs("15: an upright line", of(0, 3, 0, 0, 0, -2, 0, 2), 2, 1, 3, 0);
        FannedSites x = of(0, 0, 2, 0, 1, 0, 1, 5);
        boundaryIs("15: no line", x, 0, 2, 1, 3);
        x.remove(3);
        boundaryIs("15: a line again", x, 0, 2, 1);
    }

    private static void inside() {
        FannedSites x = of(0, 0, 4, 0, 4, 4, 0, 4, 1, 1, 5, 5, 2, 2);
        int[][] orders = {{0, 1, 2}, {0, 2, 1}, {1, 0, 2}, {1, 2, 0}, {2, 0, 1}, {2, 1, 0}};
        for (int[] o : orders) {
            DUE.same("16: inside", x.inside(o[0], o[1], o[2], 4), 1);
            DUE.same("16: on it", x.inside(o[0], o[1], o[2], 3), 0);
            DUE.same("16: outside", x.inside(o[0], o[1], o[2], 5), -1);
            DUE.same("16: one of the three", x.inside(o[0], o[1], o[2], o[1]), 0);
        }
        DUE.same("16: three on a line", x.inside(0, 2, 4, 1), 2);
        DUE.same("16: a slot twice", x.inside(0, 0, 1, 2), 2);
        DUE.same("16: a slot twice", x.inside(0, 1, 1, 2), 2);
        DUE.same("16: a slot twice", x.inside(0, 1, 0, 2), 2);
        int[] noSlots = {-1, 7, 19, 20, 32, LEAST, MOST};
        for (int slot : noSlots) {
            DUE.same("16: no site " + slot, x.inside(slot, 1, 2, 4), 2);
            DUE.same("16: no site " + slot, x.inside(0, slot, 2, 4), 2);
            DUE.same("16: no site " + slot, x.inside(0, 1, slot, 4), 2);
            DUE.same("16: no site " + slot, x.inside(0, 1, 2, slot), 2);
        }
        x.remove(4);
        DUE.same("16: a site that went", x.inside(0, 1, 2, 4), 2);
    }

    /** Points on the circle of radius 994500 and one step off it, which doubles or longs would not tell apart. */
    private static void insideIsExact() {
        FannedSites x = of(994500, 0, -994500, 0, 596700, 795600, -382500, -918000, 596700, -795600);
        DUE.same("16: on a wide circle", x.inside(0, 1, 2, 3), 0);
        DUE.same("16: on a wide circle", x.inside(0, 1, 3, 4), 0);
        x.move(3, -382500, -917999);
        DUE.same("16: a step inside a wide circle", x.inside(0, 1, 2, 3), 1);
        DUE.same("16: a step inside a wide circle", x.inside(0, 2, 1, 3), 1);
        x.move(3, -382501, -918000);
        DUE.same("16: a step outside a wide circle", x.inside(0, 1, 2, 3), -1);
        DUE.same("16: a step outside a wide circle", x.inside(0, 2, 1, 3), -1);
        FannedSites y = of(-1000000, -1000000, 1000000, -1000000, 1000000, 1000000, -1000000, 1000000,
            -999999, 999999, -1000000, 999999);
        DUE.same("16: the corners of the range", y.inside(0, 1, 2, 3), 0);
        DUE.same("16: a step from a corner of the range", y.inside(0, 1, 2, 4), 1);
        DUE.same("16: a step along the edge of the range", y.inside(0, 1, 2, 5), 1);
        FannedSites flat = of(-1000000, 0, 0, 1, 1000000, 0, 0, 1000000, 0, -1000000);
        DUE.same("16: a circle wider than the range", flat.inside(0, 1, 2, 3), -1);
        DUE.same("16: a circle wider than the range", flat.inside(0, 1, 2, 4), 1);
    }

    private static void area() {
        DUE.same("17: none", new FannedSites().area(), 0);
        DUE.same("17: one", of(3, 3).area(), 0);
        DUE.same("17: two", of(3, 3, 4, 9).area(), 0);
        DUE.same("17: a line", of(3, 3, 4, 9, 5, 15).area(), 0);
        DUE.same("17: a triangle", of(0, 0, 3, 0, 0, 1).area(), 3);
        DUE.same("17: the same clockwise", of(0, 0, 0, 1, 3, 0).area(), 3);
        DUE.same("17: a square", square().area(), 32);
        DUE.same("17: with some inside and on the edge", of(1, 1, 0, 0, 4, 0, 2, 0, 4, 4, 0, 4, 2, 3).area(), 32);
        DUE.same("17: the whole range", wholeRange().area(), 8000000000000L);
        FannedSites x = square();
        x.remove(2);
        DUE.same("17: after one went", x.area(), 16);
    }

    private static void sameHoweverItCameAbout() {
        FannedSites x = square();
        FannedSites y = of(9, 9, 7, 3, 4, 4, 1, 2);
        DUE.same("asked between", y.triangles(), 3);
        y.move(1, 4, 0);
        y.move(3, 0, 4);
        y.remove(0);
        DUE.same("asked between", y.triangles(), 1);
        y.insert(0, 0);
        for (int i = -1; i < 4; i++) {
            DUE.same("the same triangle " + i, y.triangle(i), x.triangle(i));
            DUE.same("the same corners " + i, y.corners(i), x.corners(i));
            DUE.same("the same neighbours " + i, y.neighbours(i), x.neighbours(i));
            DUE.same("the same boundary " + i, y.boundary(i), x.boundary(i));
        }
    }
}
