/** The sentences of the promises that name a boundary case, each by itself. */
public final class LimitsTest extends SiteChecks {
    private static final int BAD = FannedSites.BAD;
    private static final int SAME = FannedSites.SAME;
    private static final int FULL = FannedSites.FULL;
    private static final int[][] ORDERS = {{0, 1, 2}, {0, 2, 1}, {1, 0, 2}, {1, 2, 0}, {2, 0, 1}, {2, 1, 0}};

    public static void main(String[] args) {
        newObjectHasNoSites();
        newObjectsAreApart();
        insertTheLeastFreeSlot();
        insertBadFirst();
        insertSameBeforeFull();
        insertFull();
        removeFromAnEmptySlot();
        removeTheLastOne();
        moveOrStay();
        moveNoneFirst();
        moveBadBeforeSame();
        moveSame();
        moveInAFullSet();
        sitesAfterRefusedCalls();
        coordinateWithoutSite();
        coordinateWithoutAxis();
        trianglesFromNoneToTheMost();
        triangleWithoutSuch();
        triangleOfTheHighestSlots();
        numberInAnyOrder();
        numberWithoutSuch();
        acrossWithNoneBehind();
        acrossWithoutSuch();
        cornersWithoutSuch();
        locateOnAnEdge();
        locateInNone();
        locateOutOfRange();
        nearestOfSeveral();
        nearestWithoutSites();
        nearestAsFarAsCanBe();
        neighboursWithoutSite();
        neighboursInTheHighestSlot();
        boundaryWithoutSuch();
        insideOnTheCircle();
        insideAtTheEndsOfTheRange();
        insideWithoutSite();
        insideWithoutCircle();
        areaOfAnEmptyAndAFlatSet();
        areaOfTheLargestHull();
        DUE.end();
    }

    /** Promise 1: "No sites." */
    private static void newObjectHasNoSites() {
        FannedSites x = new FannedSites();
        DUE.same("1: sites()", x.sites(), 0);
        DUE.same("1: all that is asked", all(x).equals(all(emptied())), true);
        for (int slot = 0; slot < 20; slot++) {
            DUE.same("1: coordinate(" + slot + ", 0)", x.coordinate(slot, 0), 2000000);
            DUE.same("1: neighbours(" + slot + ")", x.neighbours(slot), NONE);
            DUE.same("1: remove(" + slot + ")", x.remove(slot), false);
            DUE.same("1: move(" + slot + ", 0, 0)", x.move(slot, 0, 0), NONE);
            DUE.same("1: inside", x.inside(slot, (slot + 1) % 20, (slot + 2) % 20, (slot + 3) % 20), 2);
            DUE.same("1: boundary(" + slot + ")", x.boundary(slot), NONE);
        }
        DUE.same("1: sites() after refused calls", x.sites(), 0);
    }

    private static FannedSites emptied() {
        FannedSites x = square();
        DUE.same("triangles() before they go", x.triangles(), 2);
        for (int slot = 0; slot < 4; slot++) {
            DUE.same("remove(" + slot + ")", x.remove(slot), true);
        }
        return x;
    }

    private static void newObjectsAreApart() {
        FannedSites x = wholeRange();
        FannedSites y = new FannedSites();
        DUE.same("1: no sites beside a full one", y.sites(), 0);
        DUE.same("1: no triangles beside a full one", y.triangles(), 0);
        DUE.same("1: a slot of its own", y.insert(1, 1), 0);
        DUE.same("1: the other one stays", x.area(), 8000000000000L);
    }

    /** Promise 2: "the least that is free" */
    private static void insertTheLeastFreeSlot() {
        FannedSites x = frame();
        int[] gone = {19, 0, 7, 8};
        for (int slot : gone) {
            DUE.same("2: remove(" + slot + ")", x.remove(slot), true);
        }
        int[] due = {0, 7, 8, 19};
        for (int i = 0; i < 4; i++) {
            DUE.same("2: the least free slot", x.insert(i, i), due[i]);
        }
        DUE.same("2: none is free", x.insert(4, 4), FULL);
        DUE.same("2: remove(10)", x.remove(10), true);
        DUE.same("2: a refused one takes no slot", x.insert(3, 3), SAME);
        DUE.same("2: a refused one takes no slot", x.insert(3, MOST), BAD);
        DUE.same("2: the one that is free", x.insert(4, 4), 10);
    }

    /** Promise 2: "BAD; SAME; FULL: the first of these that is so" */
    private static void insertBadFirst() {
        FannedSites[] sets = {new FannedSites(), of(-END, END), frame()};
        for (FannedSites x : sets) {
            String before = all(x);
            for (int far : FAR) {
                DUE.same("2: insert(" + far + ", " + END + ")", x.insert(far, END), BAD);
                DUE.same("2: insert(" + -END + ", " + far + ")", x.insert(-END, far), BAD);
                DUE.same("2: insert(" + far + ", " + far + ")", x.insert(far, far), BAD);
            }
            unchanged("2: bad", x, before);
        }
    }

    private static void insertSameBeforeFull() {
        FannedSites x = frame();
        String before = all(x);
        for (int slot = 0; slot < 20; slot++) {
            DUE.same("2: same in a full set", x.insert(x.coordinate(slot, 0), x.coordinate(slot, 1)), SAME);
        }
        unchanged("2: same in a full set", x, before);
        FannedSites one = of(END, -END);
        DUE.same("2: same beside free slots", one.insert(END, -END), SAME);
        DUE.same("2: the same x alone", one.insert(END, END), 1);
        DUE.same("2: the same y alone", one.insert(-END, -END), 2);
        DUE.same("2: the point of one that went", one.remove(0) ? one.insert(END, -END) : NONE, 0);
    }

    private static void insertFull() {
        FannedSites x = new FannedSites();
        for (int slot = 0; slot < 20; slot++) {
            DUE.same("2: up to twenty", x.insert(-END, slot), slot);
        }
        String before = all(x);
        DUE.same("2: the twenty-first", x.insert(-END, 20), FULL);
        DUE.same("2: the twenty-first", x.insert(END, END), FULL);
        unchanged("2: full", x, before);
        DUE.same("2: remove(0)", x.remove(0), true);
        DUE.same("2: not full with nineteen", x.insert(END, END), 0);
        DUE.same("2: full again", x.insert(-END, 0), FULL);
    }

    /** Promise 3: "false when there is none in the slot" */
    private static void removeFromAnEmptySlot() {
        FannedSites[] sets = {new FannedSites(), square(), frame()};
        for (FannedSites x : sets) {
            String before = all(x);
            for (int slot : NEVER_SLOTS) {
                DUE.same("3: remove(" + slot + ")", x.remove(slot), false);
            }
            for (int slot = x.sites(); slot < 20; slot++) {
                DUE.same("3: remove(" + slot + ")", x.remove(slot), false);
            }
            unchanged("3: refused", x, before);
        }
        FannedSites twice = frame();
        for (int slot = 0; slot < 20; slot++) {
            DUE.same("3: remove(" + slot + ")", twice.remove(slot), true);
            DUE.same("3: remove(" + slot + ") again", twice.remove(slot), false);
            DUE.same("3: sites()", twice.sites(), 19 - slot);
        }
    }

    private static void removeTheLastOne() {
        FannedSites x = of(-END, -END, END, END);
        DUE.same("3: remove(0)", x.remove(0), true);
        DUE.same("3: one is left", x.nearest(-END, -END), 1);
        DUE.same("3: remove(1)", x.remove(1), true);
        DUE.same("3: none is left", x.nearest(-END, -END), NONE);
        DUE.same("3: remove(1) again", x.remove(1), false);
        DUE.same("3: the slots begin anew", x.insert(END, END), 0);
    }

    /** Promise 4: "(or stays where it is)" */
    private static void moveOrStay() {
        FannedSites[] sets = {of(END, END), of(-END, 5, 7, END), square(), line(5, -END, END, 7, -9), mostTriangles()};
        for (FannedSites x : sets) {
            String before = all(x);
            for (int slot = x.sites() - 1; slot >= 0; slot--) {
                DUE.same("4: stays", x.move(slot, x.coordinate(slot, 0), x.coordinate(slot, 1)), slot);
            }
            unchanged("4: stays", x, before);
        }
    }

    /** Promise 4: "NONE when there is no site in it; BAD; SAME: the first of these that is so" */
    private static void moveNoneFirst() {
        FannedSites x = wholeRange();
        DUE.same("4: remove(3)", x.remove(3), true);
        String before = all(x);
        int[][] points = {{0, 0}, {END, END}, {MOST, 0}, {0, LEAST}, {MOST, LEAST}, {END + 1, END}, {-END, END}};
        for (int[] p : points) {
            for (int slot : NEVER_SLOTS) {
                DUE.same("4: move(" + slot + ", " + p[0] + ", " + p[1] + ")", x.move(slot, p[0], p[1]), NONE);
            }
            DUE.same("4: a slot that was left", x.move(3, p[0], p[1]), NONE);
            DUE.same("4: a slot that never was used", x.move(19, p[0], p[1]), NONE);
        }
        unchanged("4: none", x, before);
    }

    private static void moveBadBeforeSame() {
        FannedSites x = wholeRange();
        String before = all(x);
        for (int far : FAR) {
            DUE.same("4: move(0, " + far + ", " + END + ")", x.move(0, far, END), BAD);
            DUE.same("4: move(0, " + END + ", " + far + ")", x.move(0, END, far), BAD);
            DUE.same("4: beside its own point", x.move(0, -END, far), BAD);
            DUE.same("4: beside its own point", x.move(0, far, -END), BAD);
        }
        unchanged("4: bad", x, before);
    }

    private static void moveSame() {
        FannedSites x = wholeRange();
        String before = all(x);
        DUE.same("4: on one of a greater slot", x.move(0, -END, END), SAME);
        DUE.same("4: on one of a lesser slot", x.move(3, -END, -END), SAME);
        unchanged("4: same", x, before);
        DUE.same("4: remove(3)", x.remove(3), true);
        DUE.same("4: the point of one that went", x.move(0, -END, END), 0);
        DUE.same("4: the point that it left", x.move(1, -END, -END), 1);
        trianglesAre("4: after it moved", x, code(1, 2, 0));
    }

    private static void moveInAFullSet() {
        FannedSites x = frame();
        DUE.same("4: in a full set", x.move(19, 0, 0), 19);
        DUE.same("4: stays in a full set", x.move(19, 0, 0), 19);
        DUE.same("4: on another in a full set", x.move(19, -END, -END), SAME);
        DUE.same("4: still full", x.insert(1, 1), FULL);
        DUE.same("4: sites()", x.sites(), 20);
    }

    /** Promise 5, with refused calls */
    private static void sitesAfterRefusedCalls() {
        FannedSites x = frame();
        x.insert(0, 0);
        x.insert(-END, -END);
        x.insert(MOST, LEAST);
        x.move(0, END, END);
        x.move(0, END + 1, END);
        x.move(20, 0, 0);
        x.remove(20);
        x.remove(LEAST);
        DUE.same("5: twenty after refused calls", x.sites(), 20);
        x.remove(0);
        x.remove(0);
        DUE.same("5: nineteen after one went", x.sites(), 19);
    }

    /** Promise 6: "2000000 when there is no site in the slot" */
    private static void coordinateWithoutSite() {
        FannedSites x = frame();
        for (int slot : NEVER_SLOTS) {
            DUE.same("6: coordinate(" + slot + ", 0)", x.coordinate(slot, 0), 2000000);
            DUE.same("6: coordinate(" + slot + ", 1)", x.coordinate(slot, 1), 2000000);
            DUE.same("6: coordinate(" + slot + ", " + slot + ")", x.coordinate(slot, slot), 2000000);
        }
        DUE.same("6: remove(19)", x.remove(19), true);
        DUE.same("6: a slot that was left", x.coordinate(19, 0), 2000000);
        DUE.same("6: a slot that was left", x.coordinate(19, 1), 2000000);
        DUE.same("6: a slot that is used again", x.insert(END, 0) == 19 ? x.coordinate(19, 0) : NONE, END);
        DUE.same("6: the least one", x.coordinate(0, 1), -END);
        DUE.same("6: the greatest one", x.coordinate(10, 1), END);
    }

    /** Promise 6: "or no such axis" */
    private static void coordinateWithoutAxis() {
        FannedSites x = of(-END, END);
        DUE.same("6: axis 0", x.coordinate(0, 0), -END);
        DUE.same("6: axis 1", x.coordinate(0, 1), END);
        int[] noAxis = {LEAST, LEAST + 1, -2, -1, 2, 3, 32, 33, MOST - 1, MOST};
        for (int axis : noAxis) {
            DUE.same("6: coordinate(0, " + axis + ")", x.coordinate(0, axis), 2000000);
            DUE.same("6: coordinate(1, " + axis + ")", x.coordinate(1, axis), 2000000);
        }
    }

    /** Promise 7, from a set without triangles to one with as many as there can be */
    private static void trianglesFromNoneToTheMost() {
        FannedSites x = new FannedSites();
        DUE.same("7: of none", x.triangles(), 0);
        DUE.same("7: of one", of(-END, -END).triangles(), 0);
        DUE.same("7: of two", of(-END, -END, END, END).triangles(), 0);
        DUE.same("7: of twenty on a line", line(20, -END, -END, 100000, 100000).triangles(), 0);
        DUE.same("7: of three", of(-END, -END, END, END, END, END - 1).triangles(), 1);
        DUE.same("7: of twenty on the boundary", frame().triangles(), 18);
        DUE.same("7: of twenty on a circle", widestCircle().triangles(), 18);
        FannedSites most = mostTriangles();
        DUE.same("7: the most", most.triangles(), 35);
        for (int slot = 19; slot > 2; slot--) {
            DUE.same("7: remove(" + slot + ")", most.remove(slot), true);
            DUE.same("7: two fewer", most.triangles(), 2 * slot - 5);
        }
        DUE.same("7: remove(2)", most.remove(2), true);
        DUE.same("7: none is left", most.triangles(), 0);
    }

    /** Promise 8: "NONE when there is no such triangle" */
    private static void triangleWithoutSuch() {
        FannedSites[] sets = {
            new FannedSites(), of(0, 0), of(0, 0, END, END), line(20, -END, -END, 0, 100000),
            of(-END, -END, END, -END, 0, END), square(), frame(), mostTriangles()};
        for (FannedSites x : sets) {
            int count = x.triangles();
            for (int i : NEVER_NUMBERS) {
                DUE.same("8: triangle(" + i + ") of " + count, x.triangle(i), NONE);
            }
            for (int i = 0; i < 37; i++) {
                DUE.same("8: triangle(" + i + ") of " + count, x.triangle(i) != NONE, i < count);
            }
        }
    }

    /** Promise 8: the sum with slots of five bits */
    private static void triangleOfTheHighestSlots() {
        FannedSites x = line(20, -END, -END, 0, 1);
        for (int slot = 0; slot < 17; slot++) {
            DUE.same("8: remove(" + slot + ")", x.remove(slot), true);
        }
        DUE.same("8: move(17, ..)", x.move(17, END, END), 17);
        trianglesAre("8: slots 17, 18, 19", x, 18 + 32 * 17 + 1024 * 19);
        DUE.same("8: move(18, ..)", x.move(18, 0, -END), 18);
        trianglesAre("8: slots 17, 18, 19", x, 19 + 32 * 18 + 1024 * 17);
    }

    /** Promise 9: "in any order" */
    private static void numberInAnyOrder() {
        FannedSites x = mostTriangles();
        for (int i = 0; i < 35; i++) {
            int t = x.triangle(i);
            int[] c = {t & 31, t >> 5 & 31, t >> 10};
            for (int[] o : ORDERS) {
                DUE.same("9: number of triangle " + i, x.number(c[o[0]], c[o[1]], c[o[2]]), i);
            }
        }
    }

    /** Promise 9: "NONE when there is none" */
    private static void numberWithoutSuch() {
        FannedSites x = wholeRange();
        for (int[] o : ORDERS) {
            for (int never : NEVER_SLOTS) {
                int[] c = {0, 2, never};
                DUE.same("9: number with " + never, x.number(c[o[0]], c[o[1]], c[o[2]]), NONE);
            }
            int[] flipped = {0, 1, 3};
            DUE.same("9: not in the fan", x.number(flipped[o[0]], flipped[o[1]], flipped[o[2]]), NONE);
            int[] twice = {0, 2, 2};
            DUE.same("9: a slot twice", x.number(twice[o[0]], twice[o[1]], twice[o[2]]), NONE);
            int[] free = {0, 1, 4};
            DUE.same("9: a slot without site", x.number(free[o[0]], free[o[1]], free[o[2]]), NONE);
        }
        for (int never : NEVER_SLOTS) {
            DUE.same("9: number of " + never + " alone", x.number(never, never, never), NONE);
        }
        DUE.same("9: a slot thrice", x.number(0, 0, 0), NONE);
        DUE.same("9: least, most, least", x.number(LEAST, MOST, LEAST), NONE);
        DUE.same("9: of an empty set", new FannedSites().number(0, 1, 2), NONE);
        DUE.same("9: of a flat set", of(-END, -END, 0, 0, END, END).number(0, 1, 2), NONE);
        DUE.same("9: remove(1)", x.remove(1), true);
        DUE.same("9: a corner that went", x.number(0, 1, 2), NONE);
        DUE.same("9: the one that is left", x.number(0, 2, 3), 0);
    }

    /** Promise 10: "NONE when there is none" */
    private static void acrossWithNoneBehind() {
        FannedSites one = of(-END, -END, END, -END, 0, END);
        FannedSites two = wholeRange();
        int[][] due = {{NONE, 1, NONE}, {NONE, NONE, 0}};
        for (int k = 0; k < 3; k++) {
            DUE.same("10: across(0, " + k + ") of one", one.across(0, k), NONE);
            DUE.same("10: across(0, " + k + ") of two", two.across(0, k), due[0][k]);
            DUE.same("10: across(1, " + k + ") of two", two.across(1, k), due[1][k]);
        }
        FannedSites most = mostTriangles();
        int outer = 0;
        for (int i = 0; i < 35; i++) {
            for (int k = 0; k < 3; k++) {
                int other = most.across(i, k);
                outer += other == NONE ? 1 : 0;
                DUE.same("10: there and back from " + i + " over " + k, other == NONE || leadsTo(most, other, i), true);
            }
        }
        DUE.same("10: three edges have none behind them", outer, 3);
    }

    private static boolean leadsTo(FannedSites x, int from, int to) {
        return x.across(from, 0) == to || x.across(from, 1) == to || x.across(from, 2) == to;
    }

    /** Promise 10: "or no such triangle or corner" */
    private static void acrossWithoutSuch() {
        FannedSites x = wholeRange();
        int[] noCorner = {LEAST, LEAST + 1, -32, -1, 3, 4, 5, 31, 32, 33, MOST - 1, MOST};
        for (int k : noCorner) {
            DUE.same("10: across(0, " + k + ")", x.across(0, k), NONE);
            DUE.same("10: across(1, " + k + ")", x.across(1, k), NONE);
            for (int i : NEVER_NUMBERS) {
                DUE.same("10: across(" + i + ", " + k + ")", x.across(i, k), NONE);
            }
        }
        for (int k = 0; k < 3; k++) {
            for (int i : NEVER_NUMBERS) {
                DUE.same("10: across(" + i + ", " + k + ")", x.across(i, k), NONE);
            }
            DUE.same("10: across(2, " + k + ")", x.across(2, k), NONE);
            DUE.same("10: across(0, " + k + ") of an empty set", new FannedSites().across(0, k), NONE);
            DUE.same("10: across(0, " + k + ") of a flat set", of(-END, 0, 0, 0, END, 0).across(0, k), NONE);
        }
    }

    /** Promise 11: "NONE when there is no such triangle" */
    private static void cornersWithoutSuch() {
        FannedSites[] sets = {
            new FannedSites(), of(0, 0), of(0, 0, END, END), line(20, -END, -END, 0, 100000),
            of(-END, -END, END, -END, 0, END), square(), widestCircle(), mostTriangles()};
        int[] sizes = {NONE, NONE, NONE, NONE, 3, 4, 20, 3};
        for (int s = 0; s < sets.length; s++) {
            int count = sets[s].triangles();
            for (int i : NEVER_NUMBERS) {
                DUE.same("11: corners(" + i + ") of " + count, sets[s].corners(i), NONE);
            }
            for (int i = 0; i < 37; i++) {
                DUE.same("11: corners(" + i + ") of " + count, sets[s].corners(i), i < count ? sizes[s] : NONE);
            }
        }
    }

    /** Promise 12: "The least number of a triangle in which, or on whose edge, the point is" */
    private static void locateOnAnEdge() {
        FannedSites x = wholeRange();
        for (int along = -END; along <= END; along += 125000) {
            DUE.same("12: on the edge of both", x.locate(along, along), 0);
            DUE.same("12: below", x.locate(along, -END), 0);
            DUE.same("12: right", x.locate(END, along), 0);
            DUE.same("12: above", x.locate(along, END), along == END ? 0 : 1);
            DUE.same("12: left", x.locate(-END, along), along == -END ? 0 : 1);
        }
        DUE.same("12: a step from the edge of both", x.locate(END - 1, END), 1);
        DUE.same("12: a step from the edge of both", x.locate(END, END - 1), 0);
        FannedSites round = of(0, 0, END, 0, 0, END, -END, 0, 0, -END);
        trianglesAre("12: round the middle", round, code(0, 1, 2), code(3, 0, 2), code(3, 4, 0), code(4, 1, 0));
        DUE.same("12: at the site that all have", round.locate(0, 0), 0);
        DUE.same("12: on the edge of 0 and 3", round.locate(1, 0), 0);
        DUE.same("12: on the edge of 1 and 2", round.locate(-1, 0), 1);
        DUE.same("12: on the edge of 2 and 3", round.locate(0, -1), 2);
        DUE.same("12: in 3 alone", round.locate(1, -1), 3);
    }

    /** Promise 12: "NONE when it is in none" */
    private static void locateInNone() {
        DUE.same("12: of an empty set", new FannedSites().locate(0, 0), NONE);
        DUE.same("12: at the only site", of(END, END).locate(END, END), NONE);
        DUE.same("12: between two", of(-END, -END, END, END).locate(0, 0), NONE);
        DUE.same("12: on a line", of(-END, -END, END, END, 0, 0).locate(0, 0), NONE);
        FannedSites x = of(-END, -END, 999999, END, -END, END);
        DUE.same("12: a step outside of a long edge", x.locate(-999999, -999999), NONE);
        DUE.same("12: a step inside of a long edge", x.locate(999998, 999999), 0);
        DUE.same("12: behind the end of an edge", x.locate(END, END), NONE);
        DUE.same("12: the far corner of the range", x.locate(END, -END), NONE);
        FannedSites small = of(0, 0, 1, 0, 0, 1);
        int[][] out = {{1, 1}, {-1, 0}, {0, -1}, {2, 0}, {0, 2}, {2, -1}, {-1, 2}, {END, END}, {-END, -END}};
        for (int[] p : out) {
            DUE.same("12: locate(" + p[0] + ", " + p[1] + ")", small.locate(p[0], p[1]), NONE);
        }
    }

    /** Promise 12: "or a coordinate is out of its range" */
    private static void locateOutOfRange() {
        FannedSites[] sets = {new FannedSites(), of(-END, 0, END, 0), wholeRange(), mostTriangles()};
        for (FannedSites x : sets) {
            for (int far : FAR) {
                DUE.same("12: locate(" + far + ", 0)", x.locate(far, 0), NONE);
                DUE.same("12: locate(0, " + far + ")", x.locate(0, far), NONE);
                DUE.same("12: locate(" + far + ", " + END + ")", x.locate(far, END), NONE);
                DUE.same("12: locate(" + -END + ", " + far + ")", x.locate(-END, far), NONE);
                for (int other : FAR) {
                    DUE.same("12: locate(" + far + ", " + other + ")", x.locate(far, other), NONE);
                }
            }
        }
    }

    /** Promise 13: "of several the least slot" */
    private static void nearestOfSeveral() {
        FannedSites x = widestCircle();
        for (int slot = 0; slot < 20; slot++) {
            DUE.same("13: all are as near", x.nearest(0, 0), slot);
            DUE.same("13: remove(" + slot + ")", x.remove(slot), true);
        }
        FannedSites y = of(END, END, -END, END, -END, -END, END, -END);
        DUE.same("13: of four", y.nearest(0, 0), 0);
        DUE.same("13: of two above", y.nearest(0, END), 0);
        DUE.same("13: of two on the left", y.nearest(-END, 0), 1);
        DUE.same("13: of two below", y.nearest(0, -END), 2);
        DUE.same("13: a step nearer", y.nearest(1, -1), 3);
        DUE.same("13: the least slot comes last", y.remove(0) ? y.insert(0, 2) : NONE, 0);
        DUE.same("13: the least slot, put in last", y.nearest(-END, 0), 1);
        DUE.same("13: move(0, ..)", y.move(0, END, END), 0);
        DUE.same("13: the least slot, put in last", y.nearest(0, 0), 0);
    }

    /** Promise 13: "NONE when there are no sites or a coordinate is out of its range" */
    private static void nearestWithoutSites() {
        FannedSites empty = new FannedSites();
        FannedSites left = of(0, 0);
        DUE.same("13: remove(0)", left.remove(0), true);
        for (int along = -END; along <= END; along += END) {
            DUE.same("13: of a new object", empty.nearest(along, along), NONE);
            DUE.same("13: of an emptied object", left.nearest(along, -along), NONE);
        }
        FannedSites[] sets = {empty, of(END, -END), wholeRange()};
        for (FannedSites x : sets) {
            for (int far : FAR) {
                DUE.same("13: nearest(" + far + ", 0)", x.nearest(far, 0), NONE);
                DUE.same("13: nearest(0, " + far + ")", x.nearest(0, far), NONE);
                DUE.same("13: nearest(" + far + ", " + -END + ")", x.nearest(far, -END), NONE);
                DUE.same("13: nearest(" + END + ", " + far + ")", x.nearest(END, far), NONE);
                for (int other : FAR) {
                    DUE.same("13: nearest(" + far + ", " + other + ")", x.nearest(far, other), NONE);
                }
            }
        }
    }

    private static void nearestAsFarAsCanBe() {
        DUE.same("13: one alone", of(END, END).nearest(-END, -END), 0);
        DUE.same("13: one alone", of(-END, END).nearest(END, -END), 0);
        DUE.same("13: a step nearer", of(END, END, END, END - 1).nearest(-END, -END), 1);
        DUE.same("13: a step nearer", of(END, END, END - 1, END).nearest(-END, -END), 1);
        DUE.same("13: a step farther", of(END, END - 1, END, END).nearest(-END, -END), 0);
        DUE.same("13: as near", of(END, END - 1, END - 1, END).nearest(-END, -END), 0);
        DUE.same("13: far, and here", of(-END, -END, END, END).nearest(END, END), 1);
    }

    /** Promise 14: "NONE when there is no site in the slot" */
    private static void neighboursWithoutSite() {
        FannedSites[] sets = {new FannedSites(), of(END, END), of(-END, 0, 0, 0, END, 0), wholeRange(), frame()};
        for (FannedSites x : sets) {
            for (int slot : NEVER_SLOTS) {
                DUE.same("14: neighbours(" + slot + ")", x.neighbours(slot), NONE);
            }
            for (int slot = x.sites(); slot < 20; slot++) {
                DUE.same("14: neighbours(" + slot + ")", x.neighbours(slot), NONE);
            }
        }
        FannedSites x = wholeRange();
        DUE.same("14: remove(1)", x.remove(1), true);
        neighboursAre("14: one that went", x, set(2, 3), NONE, set(0, 3), set(0, 2));
    }

    private static void neighboursInTheHighestSlot() {
        FannedSites x = frame();
        DUE.same("14: move(19, 0, 0)", x.move(19, 0, 0), 19);
        DUE.same("14: slot 19 is a neighbour", x.neighbours(2) & 1 << 19, 524288);
        DUE.same("14: of slot 19", Integer.bitCount(x.neighbours(19)) > 2, true);
        DUE.same("14: the most there can be", of20WithOneInTheMiddle().neighbours(19), 524287);
    }

    private static FannedSites of20WithOneInTheMiddle() {
        FannedSites x = widestCircle();
        DUE.same("14: move(19, 0, 0)", x.move(19, 0, 0), 19);
        return x;
    }

    /** Promise 15: "NONE when it has no such site" */
    private static void boundaryWithoutSuch() {
        FannedSites[] sets = {
            new FannedSites(), of(END, END), of(-END, END, END, END), line(20, END, END, -100000, -100000),
            mostTriangles(), wholeRange(), frame()};
        int[] sizes = {0, 1, 2, 20, 3, 4, 20};
        for (int s = 0; s < sets.length; s++) {
            for (int i : NEVER_NUMBERS) {
                DUE.same("15: boundary(" + i + ") of " + sizes[s], sets[s].boundary(i), NONE);
            }
            for (int i = 0; i < 41; i++) {
                DUE.same("15: boundary(" + i + ") of " + sizes[s], sets[s].boundary(i) != NONE, i < sizes[s]);
            }
        }
    }

    /** Promise 16: "0 when it is on it" */
    private static void insideOnTheCircle() {
        FannedSites x = widestCircle();
        for (int slot = 0; slot < 20; slot++) {
            DUE.same("16: on the widest circle", x.inside(0, 5, 10, slot), 0);
            DUE.same("16: on it, clockwise", x.inside(19, 18, 17, slot), 0);
        }
        for (int[] o : ORDERS) {
            int[] c = {3, 9, 19};
            for (int d : c) {
                DUE.same("16: one of the three", x.inside(c[o[0]], c[o[1]], c[o[2]], d), 0);
            }
        }
        DUE.same("16: move a step outside", x.move(11, 960001, 280000), 11);
        DUE.same("16: a step outside", x.inside(0, 5, 10, 11), -1);
        DUE.same("16: a step outside, clockwise", x.inside(10, 5, 0, 11), -1);
        DUE.same("16: move a step inside", x.move(11, 959999, 280000), 11);
        DUE.same("16: a step inside", x.inside(0, 5, 10, 11), 1);
        DUE.same("16: a step inside, clockwise", x.inside(10, 5, 0, 11), 1);
    }

    private static void insideAtTheEndsOfTheRange() {
        FannedSites x = wholeRange();
        DUE.same("16: insert", x.insert(0, 0), 4);
        DUE.same("16: insert", x.insert(-END, END - 1), 5);
        DUE.same("16: insert", x.insert(-END, -END + 1), 6);
        for (int[] o : ORDERS) {
            DUE.same("16: a corner of the range", x.inside(o[0], o[1], o[2], 3), 0);
            DUE.same("16: the middle", x.inside(o[0], o[1], o[2], 4), 1);
            DUE.same("16: a step from a corner", x.inside(o[0], o[1], o[2], 5), 1);
            int[] low = {6, 1, 2};
            DUE.same("16: out of a circle a step aside", x.inside(low[o[0]], low[o[1]], low[o[2]], 0), -1);
            DUE.same("16: out of a circle a step aside", x.inside(low[o[0]], low[o[1]], low[o[2]], 3), -1);
        }
        FannedSites y = of(-END, -END, 999999, END, -999999, -999999, END, -END, -END, END);
        for (int[] o : ORDERS) {
            DUE.same("16: the widest of all circles", y.inside(o[0], o[1], o[2], 3), -1);
            DUE.same("16: the widest of all circles", y.inside(o[0], o[1], o[2], 4), 1);
        }
    }

    /** Promise 16: "2 when one of the slots has no site" */
    private static void insideWithoutSite() {
        FannedSites x = wholeRange();
        for (int never : NEVER_SLOTS) {
            DUE.same("16: inside(" + never + ", 1, 2, 3)", x.inside(never, 1, 2, 3), 2);
            DUE.same("16: inside(0, " + never + ", 2, 3)", x.inside(0, never, 2, 3), 2);
            DUE.same("16: inside(0, 1, " + never + ", 3)", x.inside(0, 1, never, 3), 2);
            DUE.same("16: inside(0, 1, 2, " + never + ")", x.inside(0, 1, 2, never), 2);
            DUE.same("16: none of the four", x.inside(never, never, never, never), 2);
        }
        DUE.same("16: a free slot first", x.inside(4, 1, 2, 3), 2);
        DUE.same("16: a free slot last", x.inside(0, 1, 2, 19), 2);
        DUE.same("16: remove(3)", x.remove(3), true);
        DUE.same("16: one that went", x.inside(0, 1, 2, 3), 2);
        DUE.same("16: one that went", x.inside(3, 1, 2, 0), 2);
        DUE.same("16: of an empty set", new FannedSites().inside(0, 1, 2, 3), 2);
    }

    /** Promise 16: "or a, b and c are on one line or not three different sites" */
    private static void insideWithoutCircle() {
        FannedSites x = of(-END, -END, END, END, 0, 0, END, -END, 999999, END);
        for (int[] o : ORDERS) {
            for (int d = 0; d < 5; d++) {
                DUE.same("16: on one line", x.inside(o[0], o[1], o[2], d), 2);
                int[] twice = {0, 3, 3};
                DUE.same("16: a site twice", x.inside(twice[o[0]], twice[o[1]], twice[o[2]], d), 2);
            }
            int[] almost = {0, 2, 4};
            DUE.same("16: almost on one line", x.inside(almost[o[0]], almost[o[1]], almost[o[2]], 3), -1);
        }
        for (int d = 0; d < 5; d++) {
            DUE.same("16: a site thrice", x.inside(3, 3, 3, d), 2);
        }
        FannedSites upright = of(END, -END, END, END, END, 0, 0, 0);
        DUE.same("16: on an upright line", upright.inside(0, 1, 2, 3), 2);
    }

    /** Promise 17, of a set without a hull that has an area */
    private static void areaOfAnEmptyAndAFlatSet() {
        DUE.same("17: of an empty set", new FannedSites().area(), 0);
        DUE.same("17: of an emptied set", emptied().area(), 0);
        DUE.same("17: of one", of(-END, -END).area(), 0);
        DUE.same("17: of two", of(-END, -END, END, END).area(), 0);
        DUE.same("17: of a rising line", of(-END, -END, END, END, 0, 0).area(), 0);
        DUE.same("17: of a falling line", line(20, -END, END, 100000, -100000).area(), 0);
        DUE.same("17: of an upright line", line(20, END, -END, 0, 100000).area(), 0);
        DUE.same("17: the least that is not 0", of(-END, -END, 999999, END, -999999, -999999).area(), 1);
        DUE.same("17: the least that is not 0", of(5, 5, 6, 5, 5, 6).area(), 1);
    }

    /** Promise 17, of the largest hull that the coordinates allow */
    private static void areaOfTheLargestHull() {
        DUE.same("17: the whole range", wholeRange().area(), 8000000000000L);
        DUE.same("17: put in the other way", of(-END, END, END, END, END, -END, -END, -END).area(), 8000000000000L);
        DUE.same("17: with sixteen between", frame().area(), 8000000000000L);
        DUE.same("17: half of it", of(-END, -END, END, -END, END, END).area(), 4000000000000L);
        FannedSites x = wholeRange();
        DUE.same("17: a step less", x.move(2, END, END - 1), 2);
        DUE.same("17: a step less", x.area(), 7999998000000L);
        DUE.same("17: one inside", x.insert(0, 0), 4);
        DUE.same("17: one inside", x.area(), 7999998000000L);
    }
}
