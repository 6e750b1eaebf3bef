import java.math.BigInteger;

/** Boundary cases of promises 19 to 28: WORLDS, ODDS, names that are ALIKE, WORLDS that are DRAWN. */
final class WorldBoundaries {
    private static final int LOW = Boundary.LOW, HIGH = Boundary.HIGH;
    private static final int NOTHING = Boundary.NOTHING, NOUGHT = Boundary.NOUGHT;
    private static final int NOTE = Boundary.NOTE, HARD = Boundary.HARD, SOFT = Boundary.SOFT;
    private static final int COUNT = Boundary.COUNT, ONCE = Boundary.ONCE;
    private static final int[] NO_SAYINGS = {-1, 28, LOW, HIGH};
    private static final int[] NO_LAWS = {-1, 8, LOW, HIGH};
    private static final long WHOLE = 1L << 20;

    private final Boundary b;

    WorldBoundaries(Boundary boundary) {
        b = boundary;
    }

    void run() {
        b.section("Promise 19: worlds", this::worlds);
        b.section("Promise 20: cost", this::cost);
        b.section("Promise 21: broken", this::broken);
        b.section("Promise 22: likeliest", this::likeliest);
        b.section("Promise 23: near", this::near);
        b.section("Promise 24: odds", this::odds);
        b.section("Promise 25: both", this::both);
        b.section("Promise 26: given", this::given);
        b.section("Promise 27: alike", this::alike);
        b.section("Promise 28: draw", this::draw);
    }

    /** SHARES of A and B of name 0: neither 4, A alone 1, B alone 4, both 4. */
    private static void twoSought(WeightedLaws w) {
        Boundary.seek(w, 0, 4);
        Boundary.law(w, 0, "!Ax|Bx", SOFT, 2);
    }

    private static void twoSoughtAllBarred(WeightedLaws w) {
        twoSought(w);
        Boundary.barAll(w);
    }

    /** A alone (WORLD 1) costs that much more than neither (WORLD 0). */
    private static void aIsDearer(WeightedLaws w, int by) {
        Boundary.seek(w, 0);
        for (int k = 0; k < 4; k++) {
            Boundary.law(w, k, "!Ax", SOFT, Math.max(Math.min(by - 9 * k, 9), 0));
        }
    }

    /** As many CASES as can be: of k names that are A each LAW breaks k times k. */
    private static void dearest(WeightedLaws w) {
        w.names(4);
        Boundary.seek(w, 0, 1, 2, 3);
        for (int k = 0; k < 8; k++) {
            Boundary.law(w, k, "!Ax|!Ay", SOFT, 9);
        }
    }

    private void worlds() {
        b.says("How many WORLDS there are (BARRED ones, too).", () -> {
            WeightedLaws w = new WeightedLaws();
            b.is("worlds() of none SOUGHT", w.worlds(), 1);
            int n = 1;
            for (int s : new int[] {0, 1, 2, 4, 5, 6, 8, 9, 12, 13}) {
                w.tell(s, 3);
                n = n + n;
                b.is("worlds() with " + s + " SOUGHT", w.worlds(), n);
            }
            Boundary.barAll(w);
            b.is("worlds(), all are BARRED", w.worlds(), 1024);
            w.tell(14, 3);
            b.is("worlds() behind an eleventh", w.worlds(), 1024);
        });
    }

    private void cost() {
        b.says("COST of a WORLD;", () -> {
            WeightedLaws none = new WeightedLaws();
            b.is("cost(0) of no LAWS", none.cost(0), 0);
            WeightedLaws w = Boundary.of(WorldBoundaries::dearest);
            b.is("the least", w.cost(0), 0);
            b.is("the greatest", w.cost(15), 1152);
            b.is("of a BARRED one", Boundary.of(WorldBoundaries::twoSoughtAllBarred).cost(1), 2);
            WeightedLaws many = Boundary.of(v -> {
                Boundary.seekTen(v);
                Boundary.law(v, 0, "!Ax", SOFT, 9);
            });
            b.is("of the last of 1024", many.cost(1023), 27);
            Boundary.law(many, 1, "#4Ax", COUNT, 5);
            Boundary.law(many, 2, "#1Ax", COUNT, 4);
            Boundary.law(many, 3, "1Ax", ONCE, 0);
            b.asked("of the last of 1024, COUNT and ONCE, too", many, many.cost(1023), 27 + 5, 1);
            b.asked("of the first of 1024, COUNT and ONCE, too", many, many.cost(0), 5 + 4, 1);
        });
        b.says("how many CASES of HARD ones it breaks by asked().", () -> {
            WeightedLaws w = Boundary.of(v -> {
                v.names(4);
                for (int k = 0; k < 8; k++) {
                    Boundary.law(v, k, k == 7 ? "1Bx" : "Ax|Ay", k == 7 ? ONCE : HARD, 0);
                }
            });
            b.asked("the most", w, w.cost(0), 0, 7 * 16 + 1);
            WeightedLaws soft = Boundary.of(WorldBoundaries::dearest);
            soft.told(0, 2);
            b.asked("none", soft, soft.cost(15), 1152, 0);
        });
        b.says("BAD.", () -> {
            for (int world : new int[] {-1, 4, LOW, HIGH}) {
                b.bad("cost(" + world + ") of 4", WorldBoundaries::twoSought, w -> w.cost(world));
            }
            b.bad("cost(1) of 1", Boundary::nothing, w -> w.cost(1));
            b.bad("cost(1024) of 1024", Boundary::seekTen, w -> w.cost(1024));
        });
    }

    private void broken() {
        b.says("How many CASES of a LAW a WORLD breaks.", () -> {
            WeightedLaws w = Boundary.of(v -> {
                v.names(4);
                Boundary.seek(v, 0, 1, 2, 3);
                Boundary.law(v, 0, "!Ax|!Ay", SOFT, 0);
                Boundary.law(v, 1, "!Ax|!Ay", HARD, 0);
                Boundary.law(v, 2, "!Ax|!Ay", NOTE, 0);
                Boundary.law(v, 3, "#4!Ax", COUNT, 0);
                Boundary.law(v, 7, "1Ax", ONCE, 0);
            });
            int[][] due = {{0, 0, 0, 0, 1}, {1, 1, 0, 1, 0}, {16, 16, 0, 1, 1}};
            int[] worlds = {0, 1, 15};
            int[] laws = {0, 1, 2, 3, 7};
            for (int i = 0; i < worlds.length; i++) {
                for (int j = 0; j < laws.length; j++) {
                    b.is("broken(" + laws[j] + ", " + worlds[i] + ")", w.broken(laws[j], worlds[i]), due[i][j]);
                }
            }
        });
        b.says("BAD;", () -> {
            for (int k : NO_LAWS) {
                b.bad("broken(" + k + ", 0)", WorldBoundaries::twoSought, w -> w.broken(k, 0));
            }
            for (int world : new int[] {-1, 4, LOW, HIGH}) {
                b.bad("broken(0, " + world + ") of 4", WorldBoundaries::twoSought, w -> w.broken(0, world));
            }
        });
        b.says("NOTHING.", () -> b.found(NOTHING, "broken(1, 3)", WorldBoundaries::twoSought, w -> w.broken(1, 3)));
    }

    private void likeliest() {
        b.says("LIKELIEST; its COST by asked().", () -> {
            WeightedLaws none = new WeightedLaws();
            b.asked("of one WORLD", none, none.likeliest(), 0, 0);
            WeightedLaws last = Boundary.of(w -> {
                Boundary.seekTen(w);
                Boundary.law(w, 0, "Ax", SOFT, 1);
                Boundary.law(w, 1, "Bx", SOFT, 1);
                Boundary.law(w, 2, "Cx", SOFT, 1);
                Boundary.law(w, 3, "Fxy", SOFT, 1);
            });
            b.asked("the last of 1024", last, last.likeliest(), 1023, 1 + 7);
            WeightedLaws dear = Boundary.of(w -> {
                w.names(4);
                for (int k = 0; k < 8; k++) {
                    Boundary.law(w, k, "Ax|Ay", SOFT, 9);
                }
            });
            b.asked("at the greatest COST", dear, dear.likeliest(), 0, 1152);
        });
        b.says("NONE: all are BARRED.", () -> {
            b.none("of one WORLD", Boundary::barAll, w -> w.likeliest());
            b.none("of four", WorldBoundaries::twoSoughtAllBarred, w -> w.likeliest());
            b.none("of 1024", w -> {
                Boundary.seekTen(w);
                Boundary.barAll(w);
            }, w -> w.likeliest());
        });
    }

    private void near() {
        b.says("How many WORLDS that are not BARRED cost no more than d (0 .. 999) above the LIKELIEST one.", () -> {
            WeightedLaws w = Boundary.of(WorldBoundaries::dearest);
            int[][] due = {{0, 1}, {71, 1}, {72, 5}, {287, 5}, {288, 11}, {647, 11}, {648, 15}, {999, 15}};
            for (int[] d : due) {
                b.is("near(" + d[0] + ")", w.near(d[0]), d[1]);
            }
            w.drop(0);
            b.is("near(999), the last is above by 1008", w.near(999), 15);
            w.drop(1);
            b.is("near(999), the last is above by 864", w.near(999), 16);
            Boundary.law(w, 0, "1Ax", ONCE, 0);
            b.is("near(0) above the least that is not BARRED", w.near(0), 4);
            b.is("near(999), BARRED ones left out", w.near(999), 4);
            b.is("near(0), all alike", Boundary.of(Boundary::seekTen).near(0), 1024);
        });
        b.says("BAD.", () -> {
            for (int d : new int[] {-1, 1000, LOW, HIGH}) {
                b.bad("near(" + d + ")", WorldBoundaries::twoSought, w -> w.near(d));
            }
        });
        b.says("(None: 0.)", () -> {
            WeightedLaws w = Boundary.of(WorldBoundaries::twoSoughtAllBarred);
            b.is("near(0)", w.near(0), 0);
            b.is("near(999)", w.near(999), 0);
            b.is("finding()", w.finding(), 0);
        });
    }

    private void odds() {
        b.says("ODDS of a SAYING, told by upper(), lower(): 1.", () -> {
            WeightedLaws w = Boundary.of(v -> {
                twoSought(v);
                v.tell(5, 1);
                v.tell(6, 2);
            });
            b.fraction("SOUGHT", w, w.odds(0), 5, 13);
            b.fraction("SOUGHT, too", w, w.odds(4), 8, 13);
            b.fraction("SEEN so", w, w.odds(5), 1, 1);
            b.fraction("SEEN not so", w, w.odds(6), 0, 1);
            b.fraction("BY DEFAULT", w, w.odds(8), 0, 1);
            b.fraction("of no name", w, w.odds(27), 0, 1);
            WeightedLaws many = Boundary.of(Boundary::seekTen);
            b.fraction("of 1024", many, many.odds(13), 1, 2);
        });
        b.says("BAD;", () -> {
            for (int s : NO_SAYINGS) {
                b.bad("odds(" + s + ")", WorldBoundaries::twoSought, w -> w.odds(s));
            }
        });
        b.says("NOUGHT.", () -> {
            for (int s : new int[] {0, 4, 8, 27}) {
                b.found(NOUGHT, "odds(" + s + ")", WorldBoundaries::twoSoughtAllBarred, w -> w.odds(s));
            }
        });
    }

    private void both() {
        b.says("ODDS that both are so,", () -> {
            WeightedLaws w = Boundary.of(WorldBoundaries::twoSought);
            b.fraction("both(0, 4)", w, w.both(0, 4), 4, 13);
            b.fraction("both(4, 0)", w, w.both(4, 0), 4, 13);
            b.fraction("one twice", w, w.both(0, 0), 5, 13);
            b.fraction("one that is never so", w, w.both(0, 8), 0, 1);
            b.fraction("one of no name", w, w.both(27, 4), 0, 1);
        });
        b.says("likewise.", () -> {
            for (int s : NO_SAYINGS) {
                b.bad("both(" + s + ", 0)", WorldBoundaries::twoSought, w -> w.both(s, 0));
                b.bad("both(0, " + s + ")", WorldBoundaries::twoSought, w -> w.both(0, s));
            }
            b.found(NOUGHT, "both(0, 4)", WorldBoundaries::twoSoughtAllBarred, w -> w.both(0, 4));
            b.found(NOUGHT, "both(8, 8)", WorldBoundaries::twoSoughtAllBarred, w -> w.both(8, 8));
        });
    }

    private void given() {
        b.says("ODDS of one in WORLDS in which the other one is so,", () -> {
            WeightedLaws w = Boundary.of(WorldBoundaries::twoSought);
            b.fraction("given(4, 0)", w, w.given(4, 0), 4, 5);
            b.fraction("given(0, 4)", w, w.given(0, 4), 1, 2);
            b.fraction("itself", w, w.given(0, 0), 1, 1);
            b.fraction("what is never so", w, w.given(8, 0), 0, 1);
            b.fraction("of no name", w, w.given(27, 0), 0, 1);
        });
        b.says("likewise.", () -> {
            for (int s : NO_SAYINGS) {
                b.bad("given(" + s + ", 0)", WorldBoundaries::twoSought, w -> w.given(s, 0));
                b.bad("given(0, " + s + ")", WorldBoundaries::twoSought, w -> w.given(0, s));
            }
            b.found(NOUGHT, "given(0, 4)", WorldBoundaries::twoSoughtAllBarred, w -> w.given(0, 4));
        });
        b.says("NOUGHT: also, if those have no SHARE.", () -> {
            b.found(NOUGHT, "the other one BY DEFAULT", WorldBoundaries::twoSought, w -> w.given(0, 8));
            b.found(NOUGHT, "the other one of no name", WorldBoundaries::twoSought, w -> w.given(0, 27));
            b.found(NOUGHT, "the other one SEEN not so", w -> w.tell(4, 2), w -> w.given(0, 4));
            b.found(NOUGHT, "itself, never so", WorldBoundaries::twoSought, w -> w.given(8, 8));
            b.found(NOUGHT, "only BARRED ones", w -> {
                twoSought(w);
                Boundary.law(w, 1, "!Ax", HARD, 0);
            }, w -> w.given(4, 0));
            b.found(NOUGHT, "only ones above by 21", w -> aIsDearer(w, 21), w -> w.given(0, 0));
            WeightedLaws w = Boundary.of(v -> aIsDearer(v, 20));
            b.fraction("above by 20", w, w.given(0, 0), 1, 1);
        });
    }

    private void alike() {
        b.says("Whether two names are ALIKE: 1, 0.", () -> {
            WeightedLaws w = Boundary.of(v -> v.names(4));
            b.is("alike(0, 3) at first", w.alike(0, 3), 1);
            w.tell(3, 3);
            b.is("alike(0, 3)", w.alike(0, 3), 0);
            b.is("alike(3, 0)", w.alike(3, 0), 0);
            b.is("alike(3, 3), itself", w.alike(3, 3), 1);
            w.tell(0, 3);
            b.is("alike(0, 3), told alike", w.alike(0, 3), 1);
            b.is("alike(0, 0) of one", Boundary.of(v -> v.names(1)).alike(0, 0), 1);
        });
        b.says("BAD.", () -> {
            for (int n = 1; n <= 4; n++) {
                for (int x : new int[] {-1, n, LOW, HIGH}) {
                    int names = n;
                    b.bad("alike(" + x + ", 0) of " + n, w -> w.names(names), w -> w.alike(x, 0));
                    b.bad("alike(0, " + x + ") of " + n, w -> w.names(names), w -> w.alike(0, x));
                    b.bad("alike(" + x + ", same) of " + n, w -> w.names(names), w -> w.alike(x, x));
                }
            }
        });
    }

    /** The WORLD that is DRAWN as the n-th one, by the document's words in numbers without an end. */
    static int drawn(int l, int n, long... shares) {
        BigInteger number = BigInteger.valueOf(l);
        BigInteger v = BigInteger.ZERO;
        for (int i = 0; i < n; i++) {
            number = next(number);
            v = bits(number).multiply(BigInteger.valueOf(32768));
            number = next(number);
            v = v.add(bits(number));
        }
        long all = 0;
        for (long share : shares) {
            all += share;
        }
        BigInteger limit = v.multiply(BigInteger.valueOf(all)).divide(BigInteger.ONE.shiftLeft(30));
        long sum = 0;
        int world = 0;
        while (BigInteger.valueOf(sum + shares[world]).compareTo(limit) <= 0) {
            sum += shares[world];
            world++;
        }
        return world;
    }

    private static BigInteger next(BigInteger l) {
        BigInteger turn = BigInteger.ONE.shiftLeft(32);
        return l.multiply(BigInteger.valueOf(1103515245)).add(BigInteger.valueOf(12345)).mod(turn);
    }

    private static BigInteger bits(BigInteger l) {
        return l.shiftRight(16).mod(BigInteger.valueOf(32768));
    }

    private void draw() {
        b.says("How many WORLDS are DRAWN of n (1 .. 200), l from a number on, in which a SAYING is so;", () -> {
            for (int l : new int[] {0, 1, -1, 7, LOW, HIGH, 1103515245}) {
                for (int n : new int[] {1, 2, 199, 200}) {
                    drawnFrom(l, n);
                }
            }
            b.is("what is SEEN so", Boundary.of(v -> v.tell(0, 1)).draw(3, 200, 0), 200);
            for (int s = 0; s < 28; s++) {
                drawnOf(s);
            }
            b.is("of no name", new WeightedLaws().draw(3, 200, 27), 0);
        });
        b.says("the last WORLD by asked().", () -> {
            for (int n = 1; n <= 40; n++) {
                WeightedLaws w = Boundary.of(WorldBoundaries::twoSought);
                w.draw(12, n, 0);
                b.is("draw(12, " + n + ", 0) asked()", w.asked(), drawn(12, n, WHOLE, WHOLE / 4, WHOLE, WHOLE));
            }
        });
        b.says("BAD;", () -> {
            for (int n : new int[] {0, 201, -1, LOW, HIGH}) {
                b.bad("draw(1, " + n + ", 0)", WorldBoundaries::twoSought, w -> w.draw(1, n, 0));
            }
            for (int s : NO_SAYINGS) {
                b.bad("draw(1, 1, " + s + ")", WorldBoundaries::twoSought, w -> w.draw(1, 1, s));
            }
        });
        b.says("NOUGHT.", () -> {
            for (int n : new int[] {1, 200}) {
                b.found(NOUGHT, "draw(1, " + n + ", 0)", WorldBoundaries::twoSoughtAllBarred, w -> w.draw(1, n, 0));
            }
        });
    }

    /** A SAYING that is SEEN so is so in each WORLD, a SOUGHT one in those of its bit. */
    private void drawnOf(int saying) {
        WeightedLaws seen = Boundary.of(v -> {
            v.names(4);
            v.tell(saying, 1);
        });
        b.is("what is SEEN so, " + saying, seen.draw(3, 7, saying), 7);
        WeightedLaws sought = Boundary.of(v -> {
            v.names(4);
            v.tell(saying, 3);
        });
        int so = 0;
        for (int i = 1; i <= 7; i++) {
            so += drawn(3, i, WHOLE, WHOLE);
        }
        b.is("what is SOUGHT, " + saying, sought.draw(3, 7, saying), so);
        b.is("what is BY DEFAULT", sought.draw(3, 7, (saying + 1) % 28), 0);
    }

    private void drawnFrom(int l, int n) {
        int so = 0;
        for (int i = 1; i <= n; i++) {
            so += drawn(l, i, WHOLE, WHOLE / 4, WHOLE, WHOLE) & 1;
        }
        b.is("draw(" + l + ", " + n + ", 0)", Boundary.of(WorldBoundaries::twoSought).draw(l, n, 0), so);
    }
}
