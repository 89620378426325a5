/** The sentences of "What it is" and "Terms" that name a boundary case, each by itself. */
public final class TermsTest extends SiteChecks {
    public static void main(String[] args) {
        atMost512CallsOfChanges();
        atMost512CallsOfRefusals();
        atMost512CallsOfQuestions();
        slots();
        coordinatesOfInsert();
        coordinatesOfMove();
        coordinatesOfLocateAndNearest();
        noTwoHaveTheSamePoint();
        theLesserX();
        theSameXAndTheLesserY();
        sideIsZeroOnALine();
        sideIsExact();
        flatWithFewerThanThree();
        flatWhenAllAreOnOneLine();
        flatNoMoreWhenOneIsOffTheLine();
        cornersAreAllSitesOnTheCircle();
        noSiteInsideTheCircle();
        facesOfFourSideBySide();
        beginningWithTheEarliest();
        trianglesAreNumbered();
        lastAndFirstAreNeighbours();
        neighboursInAFlatSet();
        boundaryWithThoseBetween();
        boundaryBeginsWithTheEarliest();
        aFlatSetHasNone();
        boundaryOfAFlatSet();
        DUE.end();
    }

    /** "An object is used for at most 512 calls after it has been made" */
    private static void atMost512CallsOfChanges() {
        FannedSites x = new FannedSites();
        for (int call = 0; call < 508; call += 2) {
            DUE.same("call " + call + ": insert", x.insert(call, -call), 0);
            DUE.same("call " + call + ": remove", x.remove(0), true);
        }
        DUE.same("call 509", x.insert(-END, -END), 0);
        DUE.same("call 510", x.insert(END, -END), 1);
        DUE.same("call 511", x.insert(0, END), 2);
        DUE.same("call 512", x.triangle(0), code(0, 1, 2));

        FannedSites y = square();
        for (int call = 4; call < 511; call++) {
            DUE.same("call " + call + ": move", y.move(2, call % 3, 5 + call % 7), 2);
        }
        DUE.same("call 512: 510 is the last one of the moves", y.area(), 4 * (5 + 510 % 7) + 4 * (510 % 3));
    }

    private static void atMost512CallsOfRefusals() {
        FannedSites x = full();
        for (int call = 20; call < 508; call += 4) {
            DUE.same("call " + call + ": full", x.insert(-1, call), FannedSites.FULL);
            DUE.same("call " + call + ": same", x.insert(19, 361), FannedSites.SAME);
            DUE.same("call " + call + ": bad", x.insert(MOST, call), FannedSites.BAD);
            DUE.same("call " + call + ": none", x.remove(call), false);
        }
        DUE.same("call 509", x.sites(), 20);
        DUE.same("call 510", x.triangles(), 18);
        DUE.same("call 511", x.remove(19), true);
        DUE.same("call 512", x.insert(-1, 1), 19);
    }

    private static void atMost512CallsOfQuestions() {
        FannedSites x = wholeRange();
        for (int call = 4; call < 508; call += 4) {
            DUE.same("call " + call + ": triangles", x.triangles(), 2);
            DUE.same("call " + call + ": locate", x.locate(-call, call), 1);
            DUE.same("call " + call + ": nearest", x.nearest(call, call), 2);
            DUE.same("call " + call + ": boundary", x.boundary(call), NONE);
        }
        DUE.same("call 509", x.insert(0, 0), 4);
        DUE.same("call 510", x.triangles(), 4);
        DUE.same("call 511", x.move(4, 0, 1), 4);
        DUE.same("call 512", x.triangle(3), code(4, 1, 2));
    }

    /** "slots 0 .. 19" */
    private static void slots() {
        FannedSites x = frame();
        DUE.same("no slot 20", x.insert(0, 0), FannedSites.FULL);
        for (int slot = 0; slot < 20; slot++) {
            DUE.same("slot " + slot + " has a site", x.coordinate(slot, 0) != 2000000, true);
        }
        DUE.same("no slot -1", x.coordinate(-1, 0), 2000000);
        DUE.same("no slot 20", x.coordinate(20, 0), 2000000);
    }

    /** "coordinates x and y, -1000000 .. 1000000" */
    private static void coordinatesOfInsert() {
        int[] ends = {-END, END};
        for (int x : ends) {
            for (int y : ends) {
                FannedSites one = of(x, y);
                DUE.same("the end of the range (x)", one.coordinate(0, 0), x);
                DUE.same("the end of the range (y)", one.coordinate(0, 1), y);
            }
        }
        FannedSites x = wholeRange();
        String before = all(x);
        for (int far : FAR) {
            for (int good = -END; good <= END; good += END) {
                DUE.same("insert(" + far + ", " + good + ")", x.insert(far, good), FannedSites.BAD);
                DUE.same("insert(" + good + ", " + far + ")", x.insert(good, far), FannedSites.BAD);
            }
            for (int other : FAR) {
                DUE.same("insert(" + far + ", " + other + ")", x.insert(far, other), FannedSites.BAD);
            }
        }
        unchanged("coordinates that are no such", x, before);
        DUE.same("the next one that is good", x.insert(0, 0), 4);
    }

    private static void coordinatesOfMove() {
        FannedSites x = wholeRange();
        String before = all(x);
        for (int far : FAR) {
            for (int good = -END; good <= END; good += END) {
                DUE.same("move(3, " + far + ", " + good + ")", x.move(3, far, good), FannedSites.BAD);
                DUE.same("move(3, " + good + ", " + far + ")", x.move(3, good, far), FannedSites.BAD);
            }
            for (int other : FAR) {
                DUE.same("move(3, " + far + ", " + other + ")", x.move(3, far, other), FannedSites.BAD);
            }
        }
        unchanged("coordinates that are no such", x, before);
        FannedSites one = of(0, 0);
        int[][] ends = {{-END, -END}, {END, -END}, {END, END}, {-END, END}, {0, END}, {0, -END}, {END, 0}, {-END, 0}};
        for (int[] p : ends) {
            DUE.same("move(0, " + p[0] + ", " + p[1] + ")", one.move(0, p[0], p[1]), 0);
            DUE.same("moved to the end of the range (x)", one.coordinate(0, 0), p[0]);
            DUE.same("moved to the end of the range (y)", one.coordinate(0, 1), p[1]);
        }
    }

    private static void coordinatesOfLocateAndNearest() {
        FannedSites x = wholeRange();
        int[][] corners = {{-END, -END, 0, 0}, {END, -END, 0, 1}, {END, END, 0, 2}, {-END, END, 1, 3}};
        for (int[] p : corners) {
            DUE.same("locate(" + p[0] + ", " + p[1] + ")", x.locate(p[0], p[1]), p[2]);
            DUE.same("nearest(" + p[0] + ", " + p[1] + ")", x.nearest(p[0], p[1]), p[3]);
        }
        for (int far : FAR) {
            for (int good = -END; good <= END; good += END) {
                DUE.same("locate(" + far + ", " + good + ")", x.locate(far, good), NONE);
                DUE.same("locate(" + good + ", " + far + ")", x.locate(good, far), NONE);
                DUE.same("nearest(" + far + ", " + good + ")", x.nearest(far, good), NONE);
                DUE.same("nearest(" + good + ", " + far + ")", x.nearest(good, far), NONE);
            }
            DUE.same("locate(" + far + ", " + far + ")", x.locate(far, far), NONE);
            DUE.same("nearest(" + far + ", " + far + ")", x.nearest(far, far), NONE);
        }
    }

    /** "no two have the same point" */
    private static void noTwoHaveTheSamePoint() {
        FannedSites x = of(-END, END, 3, 5, 0, 0);
        String before = all(x);
        int[][] taken = {{-END, END}, {3, 5}, {0, 0}};
        for (int slot = 0; slot < 3; slot++) {
            for (int i = 0; i < 3; i++) {
                DUE.same("insert at site " + i, x.insert(taken[i][0], taken[i][1]), FannedSites.SAME);
                int due = slot == i ? slot : FannedSites.SAME;
                DUE.same("move " + slot + " to site " + i, x.move(slot, taken[i][0], taken[i][1]), due);
            }
        }
        unchanged("points that are taken", x, before);
        int[][] others = {
            {END, -END}, {-END, -END}, {END, END}, {5, 3}, {-3, 5}, {3, -5}, {3, 4}, {4, 5}, {0, 1}, {1, 0}};
        for (int i = 0; i < others.length; i++) {
            DUE.same("another point", x.insert(others[i][0], others[i][1]), 3 + i);
        }
    }

    /** "Of two points the EARLIER one has the lesser x" */
    private static void theLesserX() {
        boundaryIs("a lesser x, a greater y", of(0, -END, -1, END), 1, 0);
        boundaryIs("a lesser x at the ends", of(END, -END, -END, END), 1, 0);
        boundaryIs("a lesser x, the same y", of(END, END, END - 1, END), 1, 0);
        trianglesAre("the lesser x is first", of(0, -END, -1, END, 5, 0), code(1, 0, 2));
    }

    /** "or the same x and the lesser y" */
    private static void theSameXAndTheLesserY() {
        boundaryIs("the same x at the end", of(END, END, END, -END, END, 0), 1, 2, 0);
        boundaryIs("the same x, a step away", of(-END, -END + 1, -END, -END), 1, 0);
        trianglesAre("the same x on the left", of(-END, END, -END, -END, END, 0), code(1, 2, 0));
        trianglesAre("the same x on the right", of(END, END, END, -END, -END, 0), code(2, 1, 0));
        trianglesAre("the same x thrice", of(0, END, 0, 0, 0, -END, 1, 0), code(1, 3, 0), code(2, 3, 1));
    }

    /** "0 when it is 0 (they are on a line)" */
    private static void sideIsZeroOnALine() {
        int[][] onLines = {
            {-END, -END, END, END, 0, 0}, {-END, END, END, -END, 999999, -999999},
            {-END, -500000, END, 500000, 2, 1}, {-END, -999999, END, 999999, 0, 0},
            {END, -END, END, END, END, 999999}, {-END, END, END, END, 999999, END}};
        for (int[] xy : onLines) {
            FannedSites x = of(xy);
            trianglesAre("on a line", x);
            DUE.same("on a line: area()", x.area(), 0);
            DUE.same("on a line: inside(0, 1, 2, 0)", x.inside(0, 1, 2, 0), 2);
            DUE.same("on a line: locate", x.locate(xy[4], xy[5]), NONE);
        }
    }

    /** "1 when [it] is above 0 .., -1 when it is below 0": here it is 1 or -1, the least that is not 0. */
    private static void sideIsExact() {
        FannedSites right = of(-END, -END, 999999, END, -999999, -999999);
        trianglesAre("a step to the right", right, code(0, 2, 1));
        DUE.same("a step to the right: area()", right.area(), 1);
        DUE.same("a step to the right: a circle", right.inside(0, 1, 2, 0), 0);
        boundaryIs("a step to the right", right, 0, 2, 1);
        FannedSites left = of(-END, -END, 999999, END, 999998, 999999);
        trianglesAre("a step to the left", left, code(0, 1, 2));
        DUE.same("a step to the left: area()", left.area(), 1);
        boundaryIs("a step to the left", left, 0, 1, 2);
    }

    /** "The set is FLAT when there are fewer than three sites" */
    private static void flatWithFewerThanThree() {
        FannedSites x = new FannedSites();
        for (int n = 0; n < 3; n++) {
            trianglesAre(n + " sites", x);
            DUE.same(n + " sites: area()", x.area(), 0);
            DUE.same(n + " sites: corners(0)", x.corners(0), NONE);
            DUE.same(n + " sites: boundary(" + n + ")", x.boundary(n), NONE);
            DUE.same("the next one", x.insert(n * 500000, n * n * 1000), n);
        }
        trianglesAre("three sites", of(0, 0, END, 1000, 0, 1), code(0, 1, 2));
    }

    /** "or all are on one line" */
    private static void flatWhenAllAreOnOneLine() {
        for (int n = 3; n <= 20; n++) {
            FannedSites[] lines = {
                line(n, -END, -END, 100000, 100000), line(n, END, -END, -100000, 100000),
                line(n, END, END, 0, -100000), line(n, END, -END, -100000, 0), line(n, 7, -9, 3, -2)};
            for (FannedSites x : lines) {
                trianglesAre(n + " on one line", x);
                DUE.same(n + " on one line: area()", x.area(), 0);
                DUE.same(n + " on one line: number(0, 1, 2)", x.number(0, 1, 2), NONE);
                DUE.same(n + " on one line: neighbours(0)", x.neighbours(0), set(1));
            }
        }
    }

    private static void flatNoMoreWhenOneIsOffTheLine() {
        FannedSites x = line(20, -END, -END, 100000, 100000);
        DUE.same("off the line", x.move(5, -500000, -499999), 5);
        DUE.same("off the line: triangles()", x.triangles(), 18);
        DUE.same("off the line: neighbours of all", x.neighbours(5), (1 << 20) - 1 - set(5));
        DUE.same("back on the line", x.move(5, -500000, -500000), 5);
        trianglesAre("back on the line", x);
        DUE.same("back on the line: neighbours(5)", x.neighbours(5), set(4, 6));
        DUE.same("the last one off the line", x.move(19, END, END - 1), 19);
        DUE.same("the last one off the line: triangles()", x.triangles(), 18);
        DUE.same("the last one back on the line", x.move(19, END, END), 19);
        DUE.same("the first one off the line", x.move(0, -END, -END + 1), 0);
        DUE.same("the first one off the line: triangles()", x.triangles(), 18);
    }

    /** "its CORNERS are all sites on it" */
    private static void cornersAreAllSitesOnTheCircle() {
        FannedSites x = widestCircle();
        DUE.same("twenty on a circle: triangles()", x.triangles(), 18);
        for (int i = 0; i < 18; i++) {
            DUE.same("twenty on a circle: triangle(" + i + ")", x.triangle(i), code(0, i + 1, i + 2));
            DUE.same("twenty on a circle: corners(" + i + ")", x.corners(i), 20);
        }
        DUE.same("one a step outside", x.move(11, 960001, 280000), 11);
        DUE.same("one a step outside: triangles()", x.triangles(), 18);
        int own = x.number(10, 11, 12);
        for (int i = 0; i < 18; i++) {
            DUE.same("one a step outside: corners(" + i + ")", x.corners(i), i == own ? 3 : 19);
        }
        DUE.same("one a step outside: its own triangle", own, 17);
        DUE.same("three are always on one circle", of(-END, -END, 999999, END, -999999, -999999).corners(0), 3);
    }

    /** "and inside which there is none" */
    private static void noSiteInsideTheCircle() {
        FannedSites x = widestCircle();
        DUE.same("one a step inside", x.move(10, END - 1, 0), 10);
        DUE.same("one a step inside: triangles()", x.triangles(), 18);
        for (int i = 0; i < 18; i++) {
            DUE.same("one a step inside: corners(" + i + ")", x.corners(i), 3);
        }
        DUE.same("one a step inside: a neighbour of all", x.neighbours(10), (1 << 20) - 1 - set(10));
        FannedSites y = wholeRange();
        DUE.same("one in the middle", y.insert(0, 0), 4);
        trianglesAre("one in the middle", y, code(0, 1, 4), code(0, 4, 3), code(3, 4, 2), code(4, 1, 2));
    }

    private static void facesOfFourSideBySide() {
        FannedSites x = new FannedSites();
        for (int slot = 0; slot < 9; slot++) {
            DUE.same("slot", x.insert(slot / 3 * END - END, slot % 3 * END - END), slot);
        }
        trianglesAre("four squares", x,
            code(0, 3, 4), code(0, 4, 1), code(1, 4, 5), code(1, 5, 2),
            code(3, 6, 7), code(3, 7, 4), code(4, 7, 8), code(4, 8, 5));
        for (int i = 0; i < 8; i++) {
            DUE.same("four squares: corners(" + i + ")", x.corners(i), 4);
        }
        DUE.same("four squares: of the middle", x.neighbours(4), set(1, 3, 5, 7));
        DUE.same("four squares: of a corner", x.neighbours(8), set(5, 7));
    }

    /** "Beginning with the earliest one, and going round counterclockwise" */
    private static void beginningWithTheEarliest() {
        int[][] corners = {{-END, -END}, {END, -END}, {END, END}, {-END, END}};
        for (int first = 0; first < 4; first++) {
            for (int second = 0; second < 4; second++) {
                for (int third = 0; third < 4; third++) {
                    if (first != second && second != third && first != third) {
                        fanOf(corners, first, second, third, 6 - first - second - third);
                    }
                }
            }
        }
    }

    /** Slot 0 is at the first of these places, and so on; the fan is the same one in the plane. */
    private static void fanOf(int[][] corners, int... places) {
        FannedSites x = new FannedSites();
        int[] slotAt = new int[4];
        for (int slot = 0; slot < 4; slot++) {
            DUE.same("slot", x.insert(corners[places[slot]][0], corners[places[slot]][1]), slot);
            slotAt[places[slot]] = slot;
        }
        int one = code(slotAt[0], slotAt[1], slotAt[2]);
        int other = code(slotAt[0], slotAt[2], slotAt[3]);
        boolean oneFirst = slotAt[1] < slotAt[2];
        trianglesAre("a square in any order", x, oneFirst ? one : other, oneFirst ? other : one);
    }

    /** "by the slot of the first corner, of equal ones by that of the second" */
    private static void trianglesAreNumbered() {
        FannedSites[] sets = {mostTriangles(), frame(), widestCircle(), full(), square()};
        for (FannedSites x : sets) {
            int count = x.triangles();
            for (int i = 1; i < count; i++) {
                int before = x.triangle(i - 1);
                int t = x.triangle(i);
                boolean ordered = (before & 31) < (t & 31)
                    || (before & 31) == (t & 31) && (before >> 5 & 31) < (t >> 5 & 31);
                DUE.same("triangles " + before + " and " + t + " in order", ordered, true);
            }
        }
        FannedSites fan = of(-5, 0, 0, 5, 3, 4, 4, 3, 5, 0, 0, -5);
        trianglesAre("a fan that is put in clockwise", fan, code(0, 2, 1), code(0, 3, 2), code(0, 4, 3), code(0, 5, 4));
    }

    /** "(cm and c0 too)" */
    private static void lastAndFirstAreNeighbours() {
        neighboursAre("three", of(-END, -END, END, -END, 0, END), set(1, 2), set(0, 2), set(0, 1));
        neighboursAre("four", wholeRange(), set(1, 3), set(0, 2), set(1, 3), set(0, 2));
        FannedSites x = widestCircle();
        for (int slot = 0; slot < 20; slot++) {
            DUE.same("twenty: neighbours(" + slot + ")", x.neighbours(slot), set((slot + 1) % 20, (slot + 19) % 20));
        }
    }

    /** "in a flat set, when no other site is between them on the line" */
    private static void neighboursInAFlatSet() {
        neighboursAre("one", of(END, -END), 0);
        neighboursAre("two", of(END, -END, -END, END), set(1), set(0));
        neighboursAre("three", of(END, -END, -END, END, 0, 0), set(2), set(2), set(0, 1));
        neighboursAre("three upright", of(END, -END, END, END, END, 0), set(2), set(2), set(0, 1));
        neighboursAre("three level", of(-END, -END, END, -END, 0, -END), set(2), set(2), set(0, 1));
        FannedSites x = line(20, END, -END, -100000, 100000);
        for (int slot = 1; slot < 19; slot++) {
            DUE.same("twenty: neighbours(" + slot + ")", x.neighbours(slot), set(slot - 1, slot + 1));
        }
        DUE.same("twenty: one end", x.neighbours(0), set(1));
        DUE.same("twenty: the other end", x.neighbours(19), set(18));
        DUE.same("one between goes", x.remove(10), true);
        DUE.same("one between goes: neighbours(9)", x.neighbours(9), set(8, 11));
        DUE.same("one between goes: neighbours(10)", x.neighbours(10), NONE);
        DUE.same("one between comes", x.insert(END - 1, -END + 1), 10);
        DUE.same("one between comes: neighbours(0)", x.neighbours(0), set(10));
        DUE.same("one between comes: neighbours(10)", x.neighbours(10), set(0, 1));
    }

    /** "(those between its corners too)" */
    private static void boundaryWithThoseBetween() {
        FannedSites x = frame();
        for (int i = 0; i < 20; i++) {
            DUE.same("between the corners: boundary(" + i + ")", x.boundary(i), i);
        }
        DUE.same("between the corners: boundary(20)", x.boundary(20), NONE);
        DUE.same("a step inside", x.move(12, -200000 + 400000, END - 1), 12);
        DUE.same("a step inside: boundary(11)", x.boundary(11), 11);
        DUE.same("a step inside: boundary(12)", x.boundary(12), 13);
        DUE.same("a step inside: boundary(19)", x.boundary(19), NONE);
        boundaryIs("between on each side of a triangle",
            of(0, 0, -END, -END, END, -END, 0, END, 0, -END, 500000, 0, -500000, 0), 1, 4, 2, 5, 3, 6);
        boundaryIs("a step off each side of a triangle",
            of(-END, -END, END, -END, 0, END, 0, -END + 1, 499999, 0, -499999, 0), 0, 1, 2);
    }

    /** "counterclockwise, beginning with the earliest" */
    private static void boundaryBeginsWithTheEarliest() {
        boundaryIs("the earliest is the lowest of the left", of(END, END, -END, END, -END, 0, -END, -END, END, -END),
            3, 4, 0, 1, 2);
        boundaryIs("the earliest is above all others", of(0, 5, END, -END, -END, END), 2, 1, 0);
        boundaryIs("the earliest comes last", of(0, -END, END, 0, 0, END, -END, 0), 3, 0, 1, 2);
    }

    /** "A flat set has none." */
    private static void aFlatSetHasNone() {
        FannedSites[] sets = {
            new FannedSites(), of(-END, -END), of(-END, -END, END, END), of(-END, -END, END, END, 0, 0),
            line(20, END, -END, 0, 100000)};
        for (FannedSites x : sets) {
            DUE.same("flat: triangles()", x.triangles(), 0);
            for (int i = 0; i < 3; i++) {
                DUE.same("flat: triangle(" + i + ")", x.triangle(i), NONE);
                DUE.same("flat: corners(" + i + ")", x.corners(i), NONE);
                DUE.same("flat: across(" + i + ", 0)", x.across(i, 0), NONE);
            }
            DUE.same("flat: locate", x.locate(-END, -END), NONE);
            DUE.same("flat: number(0, 1, 2)", x.number(0, 1, 2), NONE);
        }
    }

    /** "That of a flat set are all sites, the earlier ones first." */
    private static void boundaryOfAFlatSet() {
        boundaryIs("none", new FannedSites());
        boundaryIs("one", of(END, END), 0);
        boundaryIs("two", of(END, END, -END, -END), 1, 0);
        boundaryIs("a falling line", of(END, -END, 0, 0, -END, END), 2, 1, 0);
        boundaryIs("an upright line", of(-END, 0, -END, END, -END, -END), 2, 0, 1);
        boundaryIs("a level line", of(0, END, END, END, -END, END), 2, 0, 1);
        FannedSites x = line(20, END, END, -100000, 0);
        for (int i = 0; i < 20; i++) {
            DUE.same("twenty on a line: boundary(" + i + ")", x.boundary(i), 19 - i);
        }
        DUE.same("twenty on a line: boundary(20)", x.boundary(20), NONE);
    }
}
