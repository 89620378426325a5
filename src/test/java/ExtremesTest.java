/**
 * Every call with the ends of each range and of the type int as arguments, on sets with sites at the ends of the
 * coordinates' range, each answer compared with that of the plain model SlowSites.
 */
public final class ExtremesTest extends SiteChecks {
    private static final int[] SLOTS = {
        LEAST, LEAST + 1, -33, -32, -1, 0, 1, 2, 3, 10, 18, 19, 20, 31, 32, 33, 64, MOST - 1, MOST};
    private static final int[] FEW_SLOTS = {LEAST, -32, -1, 0, 1, 2, 3, 19, 20, 32, MOST};
    private static final int[] NUMBERS = {
        LEAST, LEAST + 1, -36, -1, 0, 1, 2, 3, 4, 8, 17, 18, 19, 20, 34, 35, 36, 40, MOST - 1, MOST};
    private static final int[] SMALL = {LEAST, -32, -1, 0, 1, 2, 3, 4, 32, MOST};
    private static final int[] COORDINATES = {
        LEAST, LEAST + 1, -2000000, -1000001, -1000000, -999999, -1, 0, 1, 999999, 1000000, 1000001, MOST - 1, MOST};
    private static final int[] FEW_COORDINATES = {LEAST, -1000001, -1000000, 0, 1000000, 1000001, MOST};

    // three of the whole set, four of each slot, two of each triangle
    private static final int MOST_CALLS_TO_AGREE = 3 + 4 * 20 + 2 * 35;

    private final int[] xy;
    private final int[] gone;
    private final String name;
    private FannedSites real;
    private SlowSites model;
    private int calls;

    private ExtremesTest(String name, int[] xy, int... gone) {
        this.name = name;
        this.xy = xy;
        this.gone = gone;
        beginAnew();
    }

    public static void main(String[] args) {
        runOf("none", new FannedSites());
        runOf("one", of(END, -END));
        runOf("two", of(-END, -END, END, END));
        runOf("three on a line", of(-END, END, END, -END, 0, 0));
        runOf("an upright line", line(5, -END, END, 0, -500000));
        runOf("the corners of the range", wholeRange());
        runOf("almost on a line", of(-END, -END, 999999, END, -999999, -999999, 999998, 999999));
        runOf("nine in squares",
            of(0, 0, -END, -END, 0, -END, END, -END, END, 0, END, END, 0, END, -END, END, -END, 0));
        runOf("a frame", frame());
        runOf("a circle", widestCircle());
        runOf("most triangles", mostTriangles());
        DUE.end();
    }

    private static void runOf(String name, FannedSites shape) {
        int[] xy = new int[2 * shape.sites()];
        for (int i = 0; i < xy.length; i++) {
            xy[i] = shape.coordinate(i / 2, i % 2);
        }
        new ExtremesTest(name, xy).askAndChange();
        new ExtremesTest(name + " less two", xy, 0, 2).askAndChange();
    }

    private void beginAnew() {
        model = new SlowSites();
        for (int i = 0; i < xy.length; i += 2) {
            model.insert(xy[i], xy[i + 1]);
        }
        for (int slot : gone) {
            model.remove(slot);
        }
        beginRealAnew();
    }

    private void beginRealAnew() {
        real = of(xy);
        for (int slot : gone) {
            real.remove(slot);
        }
        calls = xy.length / 2 + gone.length;
    }

    /** The object for one call more: a new one with the same sites when this one has had its 512 calls. */
    private FannedSites real() {
        return realFor(1);
    }

    /** Between a change and what is asked after it no new object may come in, since it would lack the change. */
    private FannedSites realToChange() {
        return realFor(1 + MOST_CALLS_TO_AGREE);
    }

    private FannedSites realFor(int callsToCome) {
        if (calls + callsToCome > 512) {
            beginRealAnew();
        }
        calls++;
        return real;
    }

    private void askAndChange() {
        agree("at first");
        askNumbers();
        askSlots();
        askThreeSlots();
        askFourSlots();
        askPoints();
        insertAll();
        removeAll();
        moveAll();
    }

    private void same(String call, long got, long want) {
        DUE.same(name + ": " + call, got, want);
    }

    private void agree(String when) {
        same(when + ", sites()", real().sites(), model.sites());
        same(when + ", triangles()", real().triangles(), model.triangles());
        same(when + ", area()", real().area(), model.area());
        for (int slot = 0; slot < 20; slot++) {
            same(when + ", coordinate(" + slot + ", 0)", real().coordinate(slot, 0), model.coordinate(slot, 0));
            same(when + ", coordinate(" + slot + ", 1)", real().coordinate(slot, 1), model.coordinate(slot, 1));
            same(when + ", neighbours(" + slot + ")", real().neighbours(slot), model.neighbours(slot));
            same(when + ", boundary(" + slot + ")", real().boundary(slot), model.boundary(slot));
        }
        for (int i = 0; i < model.triangles(); i++) {
            same(when + ", triangle(" + i + ")", real().triangle(i), model.triangle(i));
            same(when + ", corners(" + i + ")", real().corners(i), model.corners(i));
        }
    }

    private void askNumbers() {
        for (int i : NUMBERS) {
            same("triangle(" + i + ")", real().triangle(i), model.triangle(i));
            same("corners(" + i + ")", real().corners(i), model.corners(i));
            same("boundary(" + i + ")", real().boundary(i), model.boundary(i));
            for (int k : SMALL) {
                same("across(" + i + ", " + k + ")", real().across(i, k), model.across(i, k));
            }
        }
    }

    private void askSlots() {
        for (int slot : SLOTS) {
            same("neighbours(" + slot + ")", real().neighbours(slot), model.neighbours(slot));
            for (int axis : SMALL) {
                same("coordinate(" + slot + ", " + axis + ")",
                    real().coordinate(slot, axis), model.coordinate(slot, axis));
            }
        }
    }

    private void askThreeSlots() {
        for (int a : SLOTS) {
            for (int b : SLOTS) {
                for (int c : SLOTS) {
                    same("number(" + a + ", " + b + ", " + c + ")", real().number(a, b, c), model.number(a, b, c));
                }
            }
        }
    }

    private void askFourSlots() {
        for (int a : FEW_SLOTS) {
            for (int b : FEW_SLOTS) {
                for (int c : FEW_SLOTS) {
                    for (int d : FEW_SLOTS) {
                        same("inside(" + a + ", " + b + ", " + c + ", " + d + ")",
                            real().inside(a, b, c, d), model.inside(a, b, c, d));
                    }
                }
            }
        }
    }

    private void askPoints() {
        for (int x : COORDINATES) {
            for (int y : COORDINATES) {
                same("locate(" + x + ", " + y + ")", real().locate(x, y), model.locate(x, y));
                same("nearest(" + x + ", " + y + ")", real().nearest(x, y), model.nearest(x, y));
            }
        }
    }

    private void insertAll() {
        for (int x : FEW_COORDINATES) {
            for (int y : FEW_COORDINATES) {
                int due = model.insert(x, y);
                same("insert(" + x + ", " + y + ")", realToChange().insert(x, y), due);
                afterChange("after insert(" + x + ", " + y + ")", due >= 0);
            }
        }
        agree("after refused inserts");
    }

    private void removeAll() {
        for (int slot : SLOTS) {
            boolean due = model.remove(slot);
            DUE.same(name + ": remove(" + slot + ")", realToChange().remove(slot), due);
            afterChange("after remove(" + slot + ")", due);
        }
        agree("after refused removes");
    }

    private void moveAll() {
        for (int slot : FEW_SLOTS) {
            for (int x : FEW_COORDINATES) {
                for (int y : FEW_COORDINATES) {
                    int due = model.move(slot, x, y);
                    same("move(" + slot + ", " + x + ", " + y + ")", realToChange().move(slot, x, y), due);
                    afterChange("after move(" + slot + ", " + x + ", " + y + ")", due >= 0);
                }
            }
        }
        agree("after refused moves");
    }

    /** A refused call has left the set as it was: it goes on with the same one. */
    private void afterChange(String when, boolean changed) {
        if (changed) {
            agree(when);
            beginAnew();
        }
    }
}
