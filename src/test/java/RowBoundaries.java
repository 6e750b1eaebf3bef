/** Boundary cases of promises 1 to 9: a new object, ROWS, the bytes of TEXTS. */
final class RowBoundaries {
    private static final int LOW = Boundary.LOW, HIGH = Boundary.HIGH;
    private static final int NOTHING = Boundary.NOTHING, BEYOND = Boundary.BEYOND;
    private static final int NOUGHT = Boundary.NOUGHT, SIZE = Boundary.SIZE;
    private static final int[] NO_ROWS = {-1, 6, LOW, HIGH};
    private static final int[] NO_TEXTS = {-1, 4, LOW, HIGH};
    private static final int[] NO_PLACES_OF_TWO = {-1, 2, 39, 40, LOW, HIGH};

    private final Boundary b;

    RowBoundaries(Boundary boundary) {
        b = boundary;
    }

    void run() {
        b.section("Promise 1: A new object", this::newObject);
        b.section("Promise 2: row", this::row);
        b.section("Promise 3: lay", this::lay);
        b.section("Promise 4: at", this::at);
        b.section("Promise 5: tear", this::tear);
        b.section("Promise 6: copy", this::copy);
        b.section("Promise 7: mean", this::mean);
        b.section("Promise 8: text", this::text);
        b.section("Promise 9: put", this::put);
    }

    private static void twoInts(WeightedLaws w) {
        Boundary.fill(w, 1, 7, -8);
    }

    private void placesAre(String when, WeightedLaws w, int r, int... ints) {
        for (int i = 0; i < ints.length; i++) {
            b.asked(when + ": at(" + r + ", " + i + ")", w, w.at(r, i), 1, ints[i]);
        }
        b.is(when + ": no more places", w.at(r, ints.length), Boundary.FINDING);
        b.is(when + ": no more places, finding()", w.finding(), BEYOND);
    }

    private void newObject() {
        b.says("No ROWS, TEXTS, LAWS;", () -> {
            WeightedLaws w = new WeightedLaws();
            for (int what = 3; what <= 6; what++) {
                b.is("count(" + what + ")", w.count(what), 0);
            }
            for (int r = 0; r < 6; r++) {
                int row = r;
                b.found(NOTHING, "tear(" + r + ")", Boundary::nothing, v -> v.tear(row));
            }
            for (int t = 0; t < 4; t++) {
                int text = t;
                b.found(NOTHING, "fault(" + t + ", 0)", Boundary::nothing, v -> v.fault(text, 0));
            }
            for (int k = 0; k < 8; k++) {
                int law = k;
                b.found(NOTHING, "drop(" + k + ")", Boundary::nothing, v -> v.drop(law));
            }
        });
        b.says("three NAMES,", () -> {
            WeightedLaws w = new WeightedLaws();
            b.is("count(0)", w.count(0), 3);
            b.is("alike(2, 2)", w.alike(2, 2), 1);
            b.is("alike(3, 3)", w.alike(3, 3), Boundary.BAD);
        });
        b.says("all SAYINGS BY DEFAULT.", () -> {
            WeightedLaws w = new WeightedLaws();
            for (int s = 0; s < 28; s++) {
                b.is("how(" + s + ")", w.how(s), 0);
            }
            b.is("worlds()", w.worlds(), 1);
        });
    }

    private void row() {
        b.says("A ROW is there with n ints 0: n.", () -> {
            for (int r = 0; r < 6; r++) {
                for (int n : new int[] {0, 1, 39, 40}) {
                    rowOf(r, n);
                }
            }
        });
        b.says("BAD", () -> {
            for (int r : NO_ROWS) {
                b.bad("row(" + r + ", 1)", RowBoundaries::twoInts, w -> w.row(r, 1));
            }
        });
        b.says("also n above 40;", () -> {
            for (int n : new int[] {41, HIGH}) {
                b.bad("row(1, " + n + ") of one that is there", RowBoundaries::twoInts, w -> w.row(1, n));
                b.bad("row(0, " + n + ") of a missing one", RowBoundaries::twoInts, w -> w.row(0, n));
            }
        });
        b.says("SIZE: below 0.", () -> {
            for (int n : new int[] {-1, LOW}) {
                b.found(SIZE, "row(1, " + n + ") of one that is there", RowBoundaries::twoInts, w -> w.row(1, n));
                b.found(SIZE, "row(0, " + n + ") of a missing one", RowBoundaries::twoInts, w -> w.row(0, n));
            }
        });
    }

    private void rowOf(int r, int n) {
        WeightedLaws w = new WeightedLaws();
        b.is("row(" + r + ", 40)", w.row(r, 40), 40);
        for (int i = 0; i < 40; i++) {
            w.lay(r, i, 5);
        }
        b.is("row(" + r + ", " + n + ") anew", w.row(r, n), n);
        placesAre("anew", w, r, new int[n]);
        b.is("row(" + r + ", 40) once more", w.row(r, 40), 40);
        placesAre("once more", w, r, new int[40]);
        b.is("count(5)", w.count(5), 1);
    }

    private void lay() {
        b.says("Place i of a ROW is v: what it was, told by asked(): 1.", () -> {
            WeightedLaws w = Boundary.of(v -> v.row(5, 40));
            for (int i : new int[] {0, 39}) {
                b.asked("lay(5, " + i + ", LOW)", w, w.lay(5, i, LOW), 1, 0);
                b.asked("lay(5, " + i + ", HIGH)", w, w.lay(5, i, HIGH), 1, LOW);
                b.asked("lay(5, " + i + ", 0)", w, w.lay(5, i, 0), 1, HIGH);
            }
        });
        b.says("BAD;", () -> {
            for (int r : NO_ROWS) {
                b.bad("lay(" + r + ", 0, 1)", RowBoundaries::twoInts, w -> w.lay(r, 0, 1));
            }
        });
        b.says("NOTHING;", () -> {
            b.found(NOTHING, "lay(0, 0, 1) at first", RowBoundaries::twoInts, w -> w.lay(0, 0, 1));
            b.found(NOTHING, "lay(1, 0, 1) once torn", w -> {
                twoInts(w);
                w.tear(1);
            }, w -> w.lay(1, 0, 1));
        });
        b.says("BEYOND.", () -> {
            for (int i : NO_PLACES_OF_TWO) {
                b.found(BEYOND, "lay(1, " + i + ", 1)", RowBoundaries::twoInts, w -> w.lay(1, i, 1));
            }
            b.found(BEYOND, "lay(1, 0, 1) of an empty one", w -> w.row(1, 0), w -> w.lay(1, 0, 1));
            b.found(BEYOND, "lay(1, 40, 1) of a full one", w -> w.row(1, 40), w -> w.lay(1, 40, 1));
        });
    }

    private void at() {
        b.says("Place i of a ROW, told by asked(): 1.", () -> {
            WeightedLaws w = Boundary.of(v -> {
                v.row(0, 40);
                v.lay(0, 0, LOW);
                v.lay(0, 39, HIGH);
            });
            b.asked("at(0, 0)", w, w.at(0, 0), 1, LOW);
            b.asked("at(0, 39)", w, w.at(0, 39), 1, HIGH);
            b.asked("at(0, 38)", w, w.at(0, 38), 1, 0);
        });
        b.says("BAD;", () -> {
            for (int r : NO_ROWS) {
                b.bad("at(" + r + ", 0)", RowBoundaries::twoInts, w -> w.at(r, 0));
            }
        });
        b.says("NOTHING;", () -> b.found(NOTHING, "at(0, 0)", RowBoundaries::twoInts, w -> w.at(0, 0)));
        b.says("BEYOND.", () -> {
            for (int i : NO_PLACES_OF_TWO) {
                b.found(BEYOND, "at(1, " + i + ")", RowBoundaries::twoInts, w -> w.at(1, i));
            }
            b.found(BEYOND, "at(1, 0) of an empty one", w -> w.row(1, 0), w -> w.at(1, 0));
            b.found(BEYOND, "at(1, 40) of a full one", w -> w.row(1, 40), w -> w.at(1, 40));
        });
    }

    private void tear() {
        b.says("A ROW is missing: 1.", () -> {
            for (int r = 0; r < 6; r++) {
                WeightedLaws w = new WeightedLaws();
                for (int other = 0; other < 6; other++) {
                    w.row(other, other);
                }
                b.is("tear(" + r + ")", w.tear(r), 1);
                b.is("count(5)", w.count(5), 5);
                b.is("mean(" + r + ")", w.mean(r), Boundary.FINDING);
                b.is("finding()", w.finding(), NOTHING);
            }
        });
        b.says("BAD;", () -> {
            for (int r : NO_ROWS) {
                b.bad("tear(" + r + ")", RowBoundaries::twoInts, w -> w.tear(r));
            }
        });
        b.says("NOTHING.", () -> {
            b.found(NOTHING, "tear(0) at first", RowBoundaries::twoInts, w -> w.tear(0));
            b.found(NOTHING, "tear(1) twice", w -> {
                twoInts(w);
                w.tear(1);
            }, w -> w.tear(1));
        });
    }

    private static void threeAndTwo(WeightedLaws w) {
        Boundary.fill(w, 0, 1, 2, 3);
        Boundary.fill(w, 5, 8, 9);
    }

    private void copy() {
        b.says("n places of a ROW, from one on, come to those of another one (perhaps itself) from one on,",
            this::copied);
        b.says("as if taken ahead: 1.", this::copiedAhead);
        b.says("BAD;", () -> {
            for (int r : NO_ROWS) {
                b.bad("copy(" + r + ", 0, 0, 0, 1)", RowBoundaries::threeAndTwo, w -> w.copy(r, 0, 0, 0, 1));
                b.bad("copy(0, 0, " + r + ", 0, 1)", RowBoundaries::threeAndTwo, w -> w.copy(0, 0, r, 0, 1));
            }
        });
        b.says("SIZE: n below 0;", () -> {
            for (int n : new int[] {-1, LOW}) {
                b.found(SIZE, "copy of " + n, RowBoundaries::threeAndTwo, w -> w.copy(0, 0, 5, 0, n));
                b.found(SIZE, "copy of " + n + " further", RowBoundaries::threeAndTwo, w -> w.copy(0, 2, 0, 1, n));
            }
        });
        b.says("NOTHING: either;", () -> {
            b.found(NOTHING, "copy(1, 0, 0, 0, 1)", RowBoundaries::threeAndTwo, w -> w.copy(1, 0, 0, 0, 1));
            b.found(NOTHING, "copy(0, 0, 1, 0, 1)", RowBoundaries::threeAndTwo, w -> w.copy(0, 0, 1, 0, 1));
            b.found(NOTHING, "copy(1, 0, 2, 0, 0)", RowBoundaries::threeAndTwo, w -> w.copy(1, 0, 2, 0, 0));
        });
        b.says("BEYOND: not so many there.", this::copiedBeyond);
    }

    private void copied() {
        WeightedLaws w = Boundary.of(RowBoundaries::threeAndTwo);
        b.is("copy of none", w.copy(0, 0, 5, 0, 0), 1);
        b.is("copy of none from the end to the end", w.copy(0, 3, 5, 2, 0), 1);
        placesAre("copy of none", w, 5, 8, 9);
        b.is("copy of the last one to the first", w.copy(0, 2, 5, 0, 1), 1);
        placesAre("copy of the last one", w, 5, 3, 9);
        b.is("copy of all that there are", w.copy(5, 0, 0, 1, 2), 1);
        placesAre("copy of all", w, 0, 1, 3, 9);
        placesAre("copy leaves where it is from", w, 5, 3, 9);
        WeightedLaws full = Boundary.of(v -> {
            v.row(1, 40);
            v.row(2, 40);
            v.lay(1, 0, 4);
            v.lay(1, 39, 6);
        });
        b.is("copy of 40", full.copy(1, 0, 2, 0, 40), 1);
        b.asked("copy of 40, the first", full, full.at(2, 0), 1, 4);
        b.asked("copy of 40, the last", full, full.at(2, 39), 1, 6);
        b.is("copy of none in an empty ROW", Boundary.of(v -> v.row(3, 0)).copy(3, 0, 3, 0, 0), 1);
    }

    private void copiedAhead() {
        WeightedLaws up = Boundary.of(RowBoundaries::threeAndTwo);
        b.is("copy up", up.copy(0, 0, 0, 1, 2), 1);
        placesAre("copy up", up, 0, 1, 1, 2);
        WeightedLaws down = Boundary.of(RowBoundaries::threeAndTwo);
        b.is("copy down", down.copy(0, 1, 0, 0, 2), 1);
        placesAre("copy down", down, 0, 2, 3, 3);
        WeightedLaws same = Boundary.of(RowBoundaries::threeAndTwo);
        b.is("copy to itself", same.copy(0, 0, 0, 0, 3), 1);
        placesAre("copy to itself", same, 0, 1, 2, 3);
    }

    private void copiedBeyond() {
        // From place, to place, how many: ROW 0 has three places, ROW 5 two.
        int[][] beyond = {{0, 0, 3}, {2, 0, 2}, {0, 1, 2}, {3, 0, 1}, {0, 2, 1}, {4, 0, 0}, {0, 3, 0}, {-1, 0, 1},
            {0, -1, 1}, {-1, 0, 0}, {0, -1, 0}, {0, 0, 41}, {0, 0, HIGH}, {1, 1, HIGH}, {HIGH, 0, 1}, {0, HIGH, 1},
            {HIGH, HIGH, HIGH}, {LOW, 0, 1}, {0, LOW, 1}, {LOW, LOW, HIGH}};
        for (int[] c : beyond) {
            String call = "copy(0, " + c[0] + ", 5, " + c[1] + ", " + c[2] + ")";
            b.found(BEYOND, call, RowBoundaries::threeAndTwo, w -> w.copy(0, c[0], 5, c[1], c[2]));
        }
        b.found(BEYOND, "copy of 1 in an empty ROW", w -> w.row(3, 0), w -> w.copy(3, 0, 3, 0, 1));
        b.found(BEYOND, "copy of 41 in a full ROW", w -> w.row(3, 40), w -> w.copy(3, 0, 3, 0, 41));
    }

    private void mean() {
        b.says("The mean of a ROW's ints, cut, told by asked(): 1.", () -> {
            meanIs(-9, -9);
            meanIs(0, 0, 1);
            meanIs(0, 0, -1);
            meanIs(3, 3, 4);
            meanIs(-3, -3, -4);
            meanIs(1, 1, 1, 3);
            meanIs(HIGH, HIGH, HIGH, HIGH);
            meanIs(LOW, LOW, LOW);
            meanIs(0, LOW, HIGH);
            meanIs(LOW, fortyOf(LOW));
            meanIs(HIGH, fortyOf(HIGH));
        });
        b.says("BAD;", () -> {
            for (int r : NO_ROWS) {
                b.bad("mean(" + r + ")", RowBoundaries::twoInts, w -> w.mean(r));
            }
        });
        b.says("NOTHING;", () -> b.found(NOTHING, "mean(0)", RowBoundaries::twoInts, w -> w.mean(0)));
        b.says("NOUGHT.", () -> {
            b.found(NOUGHT, "mean of none", w -> w.row(2, 0), w -> w.mean(2));
            b.found(NOUGHT, "mean of none, where there were some", w -> {
                Boundary.fill(w, 2, 5, 5);
                w.row(2, 0);
            }, w -> w.mean(2));
        });
    }

    private static int[] fortyOf(int v) {
        int[] ints = new int[40];
        java.util.Arrays.fill(ints, v);
        return ints;
    }

    private void meanIs(int want, int... ints) {
        WeightedLaws w = Boundary.of(v -> Boundary.fill(v, 4, ints));
        b.asked("mean of " + ints.length + " ints from " + ints[0] + " on", w, w.mean(4), 1, want);
    }

    private static void twoBytes(WeightedLaws w) {
        w.text(1, 2);
        w.put(1, 0, 65);
    }

    private void text() {
        b.says("A TEXT is there with n blanks: n.", () -> {
            for (int t = 0; t < 4; t++) {
                for (int n : new int[] {0, 1, 39, 40}) {
                    textOf(t, n);
                }
            }
        });
        b.says("BAD", () -> {
            for (int t : NO_TEXTS) {
                b.bad("text(" + t + ", 1)", RowBoundaries::twoBytes, w -> w.text(t, 1));
            }
        });
        b.says("also n above 40;", () -> {
            for (int n : new int[] {41, HIGH}) {
                b.bad("text(1, " + n + ") of one that is there", RowBoundaries::twoBytes, w -> w.text(1, n));
                b.bad("text(0, " + n + ") of a missing one", RowBoundaries::twoBytes, w -> w.text(0, n));
            }
        });
        b.says("SIZE: below 0.", () -> {
            for (int n : new int[] {-1, LOW}) {
                b.found(SIZE, "text(1, " + n + ") of one that is there", RowBoundaries::twoBytes, w -> w.text(1, n));
                b.found(SIZE, "text(0, " + n + ") of a missing one", RowBoundaries::twoBytes, w -> w.text(0, n));
            }
        });
    }

    private void textOf(int t, int n) {
        WeightedLaws w = new WeightedLaws();
        b.is("text(" + t + ", 40)", w.text(t, 40), 40);
        for (int i = 0; i < 40; i++) {
            w.put(t, i, 65);
        }
        b.is("text(" + t + ", " + n + ") anew", w.text(t, n), n);
        for (int i = 0; i < n; i++) {
            b.is("byte " + i, w.put(t, i, 65), 1032);
        }
        b.is("no more bytes", w.put(t, n, 65), Boundary.FINDING);
        b.is("count(6)", w.count(6), 1);
        b.is("count(5)", w.count(5), 0);
    }

    private void put() {
        b.says("Byte i of a TEXT is v, cut to a byte: what it was, and 1000 more.", () -> {
            // What is put, and what it is as a byte.
            int[][] cut = {{0, 0}, {127, 127}, {128, -128}, {255, -1}, {256, 0}, {321, 65}, {-1, -1}, {-128, -128},
                {-129, 127}, {HIGH, -1}, {LOW, 0}};
            WeightedLaws w = Boundary.of(v -> v.text(3, 40));
            for (int[] c : cut) {
                w.put(3, 39, c[0]);
                b.is("put(3, 39, ..) behind " + c[0], w.put(3, 39, 32), 1000 + c[1]);
                b.is("it is a blank again", w.put(3, 39, 32), 1032);
            }
            b.is("put(3, 0, ..): its neighbours stay", w.put(3, 0, 1), 1032);
            b.is("put(3, 38, ..): its neighbours stay", w.put(3, 38, 1), 1032);
        });
        b.says("BAD;", () -> {
            for (int t : NO_TEXTS) {
                b.bad("put(" + t + ", 0, 1)", RowBoundaries::twoBytes, w -> w.put(t, 0, 1));
            }
        });
        b.says("NOTHING;", () -> b.found(NOTHING, "put(0, 0, 1)", RowBoundaries::twoBytes, w -> w.put(0, 0, 1)));
        b.says("BEYOND.", () -> {
            for (int i : NO_PLACES_OF_TWO) {
                b.found(BEYOND, "put(1, " + i + ", 1)", RowBoundaries::twoBytes, w -> w.put(1, i, 1));
            }
            b.found(BEYOND, "put(1, 0, 1) of an empty one", w -> w.text(1, 0), w -> w.put(1, 0, 1));
            b.found(BEYOND, "put(1, 40, 1) of a full one", w -> w.text(1, 40), w -> w.put(1, 40, 1));
        });
    }
}
