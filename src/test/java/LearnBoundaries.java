import java.util.function.Consumer;

/** Boundary cases of promises 29 to 36: learning, what a LAW does, acts, what is wrong, what held. */
final class LearnBoundaries {
    private static final int LOW = Boundary.LOW, HIGH = Boundary.HIGH, NONE = Boundary.NONE;
    private static final int NOTHING = Boundary.NOTHING, UNLIKE = Boundary.UNLIKE;
    private static final int NOUGHT = Boundary.NOUGHT, SIZE = Boundary.SIZE;
    private static final int NOTE = Boundary.NOTE, HARD = Boundary.HARD, SOFT = Boundary.SOFT;
    private static final int COUNT = Boundary.COUNT, ONCE = Boundary.ONCE;
    private static final int[] NO_SAYINGS = {-1, 28, LOW, HIGH};
    private static final int[] NO_LAWS = {-1, 8, LOW, HIGH};
    private static final int[] NO_ROWS = {-1, 6, LOW, HIGH};

    private final Boundary b;

    LearnBoundaries(Boundary boundary) {
        b = boundary;
    }

    void run() {
        b.section("Promise 29: learn", this::learn);
        b.section("Promise 30: pull", this::pull);
        b.section("Promise 31: why", this::why);
        b.section("Promise 32: otherwise", this::otherwise);
        b.section("Promise 33: act", this::act);
        b.section("Promise 34: look", this::look);
        b.section("Promise 35: wrong", this::wrong);
        b.section("Promise 36: held", this::held);
    }

    /** SHARES of A and B of name 0: neither 4, A alone 1, B alone 4, both 4. */
    private static void twoSought(WeightedLaws w) {
        Boundary.seek(w, 0, 4);
        Boundary.law(w, 0, "!Ax|Bx", SOFT, 2);
    }

    private static void twoSoughtAllBarred(WeightedLaws w) {
        twoSought(w);
        Boundary.barAll(w);
    }

    /** SOFT ones at 0, 2, 3, 6 (COUNT), a note at 1, HARD ones at 4 and 5; 7 is missing. WORLDS 0 and 2 are BARRED. */
    private static void lawsToLearn(WeightedLaws w) {
        Boundary.seek(w, 0, 4);
        Boundary.law(w, 0, "Ax", SOFT, 5);
        Boundary.law(w, 1, "Ax", NOTE, 0);
        Boundary.law(w, 2, "Bx", SOFT, 6);
        Boundary.law(w, 3, "!Ax|!Bx", SOFT, 7);
        Boundary.law(w, 4, "!Cx", HARD, 0);
        Boundary.law(w, 5, "1Ax", ONCE, 0);
        Boundary.law(w, 6, "#1Bx", COUNT, 8);
    }

    private static void lawsAllBarred(WeightedLaws w) {
        lawsToLearn(w);
        Boundary.barAll(w);
    }

    private static void eightSoft(WeightedLaws w) {
        Boundary.seek(w, 0);
        for (int k = 0; k < 8; k++) {
            Boundary.law(w, k, "Ax", SOFT, k);
        }
    }

    private static Consumer<WeightedLaws> eightButOne(int k, String signs, int kind) {
        return w -> {
            eightSoft(w);
            Boundary.law(w, k, signs, kind, 0);
        };
    }

    // ---- learn

    private void learn() {
        b.says("LEARNING by a WORLD: the WEIGHTS as figures (the first LAW highest) come to the LAWS;", this::learned);
        b.says("SHARE by all SHARES by upper(), lower(): these figures.", () -> {
            WeightedLaws w = Boundary.of(v -> {
                Boundary.seek(v, 0);
                Boundary.law(v, 0, "!Ax", SOFT, 9);
            });
            b.told("A, paid by 0", w, w.learn(1, 1, 0), 0, 1, 2);
            b.told("not A, paid by 0", w, w.learn(0, 1, 0), 3, 8, 9);
            b.told("not A, paid by 1: the fraction is not paid for", w, w.learn(0, 1, 1), 0, 1, 2);
            WeightedLaws none = Boundary.of(v -> {
                Boundary.seek(v, 0);
                for (int k = 0; k < 4; k++) {
                    Boundary.law(v, k, "!Ax", SOFT, 7);
                }
            });
            b.told("no SHARE at any WEIGHTS", none, none.learn(1, 8, 0), 0, 0, 1);
            b.is("the WEIGHT is 0 nonetheless", none.mark(3, SOFT), 0);
        });
        b.says("BAD: bits,", () -> {
            for (int laws : new int[] {256, 257, -1, -256, LOW, HIGH}) {
                b.bad("learn(1, " + laws + ", 0)", LearnBoundaries::lawsToLearn, w -> w.learn(1, laws, 0));
            }
            for (int world : new int[] {-1, 4, LOW, HIGH}) {
                b.bad("learn(" + world + ", 1, 0)", LearnBoundaries::lawsToLearn, w -> w.learn(world, 1, 0));
            }
        });
        b.says("none,", () -> b.bad("learn(1, 0, 0)", LearnBoundaries::lawsToLearn, w -> w.learn(1, 0, 0)));
        b.says("more than 3,", () -> {
            for (int laws : new int[] {1 | 4 | 8 | 64, 15, 240, 255}) {
                b.bad("learn(1, " + laws + ", 0)", LearnBoundaries::lawsToLearn, w -> w.learn(1, laws, 0));
            }
            int three = Boundary.of(LearnBoundaries::lawsToLearn).learn(1, 1 | 8 | 64, 0);
            b.is("learn(1, 73, 0): three are not too many", three, 30);
        });
        b.says("price 0 .. 2;", () -> {
            for (int price : new int[] {-1, 3, LOW, HIGH}) {
                b.bad("learn(1, 1, " + price + ")", LearnBoundaries::lawsToLearn, w -> w.learn(1, 1, price));
            }
            int[] due = {3, 0, 0};
            for (int price = 0; price <= 2; price++) {
                int got = Boundary.of(LearnBoundaries::lawsToLearn).learn(1, 8, price);
                b.is("learn(1, 8, " + price + ")", got, due[price]);
            }
        });
        learnRefused();
    }

    private void learned() {
        // One LAW alone is for A: it gets all there is, at its own figure.
        String[] ofThree = {"Ax", "!Ax", "!Ax"};
        int[] figures = {300, 30, 3};
        for (int first = 0; first < 3; first++) {
            int at = first;
            WeightedLaws w = Boundary.of(v -> {
                Boundary.seek(v, 0);
                Boundary.law(v, 1, ofThree[at % 3], SOFT, 9);
                Boundary.law(v, 4, ofThree[(at + 2) % 3], SOFT, 9);
                Boundary.law(v, 7, ofThree[(at + 1) % 3], SOFT, 9);
            });
            b.is("three, of which one is for A at " + first, w.learn(1, 2 | 16 | 128, 0), figures[first]);
            int[] laws = {1, 4, 7};
            for (int i = 0; i < 3; i++) {
                b.is("the WEIGHT that came to " + laws[i], w.mark(laws[i], SOFT), i == first ? 3 : 0);
            }
        }
        WeightedLaws two = Boundary.of(LearnBoundaries::lawsToLearn);
        b.is("two", two.learn(1, 8 | 64, 0), 30);
        b.is("another one keeps its WEIGHT", two.mark(2, SOFT), 6);
        b.is("COUNT keeps how many names", two.mark(6, COUNT), 1);
        WeightedLaws one = Boundary.of(LearnBoundaries::lawsToLearn);
        b.is("one", one.learn(3, 64, 0), 3);
    }

    private void learnRefused() {
        b.says("NOTHING: one of them;", () -> {
            b.found(NOTHING, "learn(1, 128, 0)", LearnBoundaries::lawsToLearn, w -> w.learn(1, 128, 0));
            b.found(NOTHING, "learn(1, 133, 0)", LearnBoundaries::lawsToLearn, w -> w.learn(1, 133, 0));
            b.found(NOTHING, "learn(1, 5, 0), one of them dropped", v -> {
                lawsToLearn(v);
                v.drop(2);
            }, w -> w.learn(1, 5, 0));
            for (int k = 0; k < 8; k++) {
                int law = k;
                b.found(NOTHING, "LAW " + k + " alone is missing", w -> {
                    eightSoft(w);
                    w.drop(law);
                }, w -> w.learn(1, 1 << law | 1 << (law + 1) % 8, 0));
            }
        });
        b.says("UNLIKE: one that is not SOFT;", () -> {
            for (int laws : new int[] {2, 16, 32, 1 | 2, 1 | 4 | 16, 32 | 64}) {
                b.found(UNLIKE, "learn(1, " + laws + ", 0)", LearnBoundaries::lawsToLearn, w -> w.learn(1, laws, 0));
            }
            for (int k = 0; k < 8; k++) {
                int bit = 1 << k;
                b.found(UNLIKE, "LAW " + k + " is a note", eightButOne(k, "Ax", NOTE), w -> w.learn(1, bit, 0));
                b.found(UNLIKE, "LAW " + k + " is HARD", eightButOne(k, "!Cx", HARD), w -> w.learn(1, bit, 0));
                b.found(UNLIKE, "LAW " + k + " is ONCE", eightButOne(k, "1Ax", ONCE), w -> w.learn(1, bit, 0));
            }
        });
        b.says("NOUGHT: all are BARRED;", () -> {
            for (int world = 0; world < 4; world++) {
                int of = world;
                b.found(NOUGHT, "learn(" + world + ", 1, 0)", LearnBoundaries::lawsAllBarred, w -> w.learn(of, 1, 0));
            }
            for (int k = 0; k < 8; k++) {
                int other = 1 << (k + 1) % 8;
                b.found(NOUGHT, "LAW " + k + " bars all", eightButOne(k, "Cx", HARD), w -> w.learn(1, other, 0));
            }
        });
        b.says("STATE: the WORLD is BARRED.", () -> {
            b.state("learn(0, 1, 0)", LearnBoundaries::lawsToLearn, w -> w.learn(0, 1, 0));
            b.state("learn(2, 13, 2)", LearnBoundaries::lawsToLearn, w -> w.learn(2, 1 | 4 | 8, 2));
            for (int k = 0; k < 8; k++) {
                int other = 1 << (k + 1) % 8;
                b.state("LAW " + k + " bars it", eightButOne(k, "!Ax", HARD), w -> w.learn(1, other, 0));
                b.state("LAW " + k + " of ONCE bars it", eightButOne(k, "1Ax", ONCE), w -> w.learn(0, other, 0));
            }
        });
        b.says("(STATE last.)", () -> {
            b.found(NOTHING, "learn(0, 128, 0)", LearnBoundaries::lawsToLearn, w -> w.learn(0, 128, 0));
            b.found(UNLIKE, "learn(0, 2, 0)", LearnBoundaries::lawsToLearn, w -> w.learn(0, 2, 0));
            b.found(NOUGHT, "learn(0, 1, 0)", LearnBoundaries::lawsAllBarred, w -> w.learn(0, 1, 0));
        });
    }

    // ---- pull, why, otherwise

    private void pull() {
        b.says("PULL, told by upper(), lower(): 1.", () -> {
            WeightedLaws w = Boundary.of(LearnBoundaries::twoSought);
            b.fraction("below 0", w, w.pull(0, 0), 5 * 2 - 13, 26);
            b.fraction("above 0", w, w.pull(0, 4), 8 * 2 - 13, 26);
            b.fraction("on what is not so", w, w.pull(0, 8), 0, 1);
            b.fraction("on what is of no name", w, w.pull(0, 27), 0, 1);
            w.weight(0, 0);
            b.fraction("of WEIGHT 0", w, w.pull(0, 0), 0, 1);
            WeightedLaws hard = Boundary.of(v -> {
                Boundary.seek(v, 0);
                Boundary.law(v, 7, "!Ax", HARD, 0);
                Boundary.law(v, 0, "!Ax", NOTE, 0);
            });
            b.fraction("all the way down", hard, hard.pull(7, 0), -1, 2);
            b.fraction("a note", hard, hard.pull(0, 0), 0, 1);
        });
        b.says("BAD;", () -> {
            for (int k : NO_LAWS) {
                b.bad("pull(" + k + ", 0)", LearnBoundaries::twoSought, w -> w.pull(k, 0));
            }
            for (int s : NO_SAYINGS) {
                b.bad("pull(0, " + s + ")", LearnBoundaries::twoSought, w -> w.pull(0, s));
            }
        });
        b.says("NOTHING;", () -> b.found(NOTHING, "pull(1, 0)", LearnBoundaries::twoSought, w -> w.pull(1, 0)));
        b.says("NOUGHT: with it,", () ->
            b.found(NOUGHT, "pull(7, 0): there are WORLDS without", LearnBoundaries::twoSoughtAllBarred,
                w -> w.pull(7, 0)));
        b.says("or without.", () -> {
            b.found(NOUGHT, "pull(0, 0): a SOFT one", LearnBoundaries::twoSoughtAllBarred, w -> w.pull(0, 0));
            b.found(NOUGHT, "pull(7, 0): another bars, too", v -> {
                twoSoughtAllBarred(v);
                Boundary.law(v, 6, "Cx", HARD, 0);
            }, w -> w.pull(7, 0));
        });
    }

    private void why() {
        b.says("WHY (bits of LAWS that are there;", () -> {
            WeightedLaws all = Boundary.of(v -> {
                Boundary.seek(v, 0);
                for (int k = 0; k < 8; k++) {
                    Boundary.law(v, k, "Ax", SOFT, 1);
                }
            });
            b.is("all eight", all.why(0), 255);
            all.drop(7);
            b.is("the seven that are left", all.why(0), 127);
            all.drop(0);
            b.is("the six that are left", all.why(0), 126);
            WeightedLaws last = Boundary.of(v -> {
                Boundary.seek(v, 0);
                Boundary.law(v, 7, "Ax", SOFT, 1);
            });
            b.is("the last one", last.why(0), 128);
        });
        b.says("0: its ODDS are no more than a half now).", () -> {
            WeightedLaws w = Boundary.of(v -> {
                Boundary.seek(v, 0, 1);
                Boundary.law(v, 0, "!Ax", SOFT, 1);
                v.tell(2, 2);
            });
            b.is("less than a half", w.why(0), 0);
            w.weight(0, 0);
            b.is("just a half", w.why(0), 0);
            b.is("nought: SEEN not so", w.why(2), 0);
            b.is("nought: of no name", w.why(27), 0);
            Boundary.law(w, 1, "Ax", SOFT, 1);
            b.is("more than a half", w.why(0), 2);
        });
        b.says("NONE: not without all.", () -> {
            b.none("SEEN so, no LAWS", w -> w.tell(0, 1), w -> w.why(0));
            b.none("SEEN so, with LAWS", w -> {
                twoSought(w);
                w.tell(0, 1);
            }, w -> w.why(0));
        });
        b.says("BAD;", () -> {
            for (int s : NO_SAYINGS) {
                b.bad("why(" + s + ")", LearnBoundaries::twoSought, w -> w.why(s));
            }
        });
        b.says("NOUGHT: with all LAWS.", () -> {
            b.found(NOUGHT, "why(0)", LearnBoundaries::twoSoughtAllBarred, w -> w.why(0));
            b.found(NOUGHT, "why(8) of what is not so", LearnBoundaries::twoSoughtAllBarred, w -> w.why(8));
        });
    }

    private void otherwise() {
        b.says("OTHERWISE, told by upper(), lower(): 1.", () -> {
            WeightedLaws w = Boundary.of(LearnBoundaries::twoSought);
            long[][] due = {{1, 2}, {4, 5}, {1, 2}, {8, 13}};
            for (int how = 0; how <= 3; how++) {
                b.fraction("otherwise(0, " + how + ", 4)", w, w.otherwise(0, how, 4), due[how][0], due[how][1]);
                b.is("how(0) stays", w.how(0), 3);
            }
            b.fraction("the other one is of no name", w, w.otherwise(0, 1, 27), 0, 1);
            b.fraction("another one is SOUGHT for once", w, w.otherwise(8, 3, 8), 1, 2);
            b.is("worlds() as before", w.worlds(), 4);
            WeightedLaws barred = Boundary.of(v -> {
                v.names(1);
                Boundary.barAll(v);
            });
            b.fraction("all are BARRED but not for once", barred, barred.otherwise(8, 1, 8), 1, 1);
            b.is("and then again", barred.likeliest(), NONE);
        });
        b.says("BAD;", () -> {
            for (int s : NO_SAYINGS) {
                b.bad("otherwise(" + s + ", 1, 0)", LearnBoundaries::twoSought, w -> w.otherwise(s, 1, 0));
                b.bad("otherwise(0, 1, " + s + ")", LearnBoundaries::twoSought, w -> w.otherwise(0, 1, s));
            }
            for (int how : new int[] {-1, 4, LOW, HIGH}) {
                b.bad("otherwise(0, " + how + ", 0)", LearnBoundaries::twoSought, w -> w.otherwise(0, how, 0));
            }
            for (int s : new int[] {3, 7, 11, 15, 24, 27}) {
                b.bad("otherwise(" + s + ", 1, 0)", LearnBoundaries::twoSought, w -> w.otherwise(s, 1, 0));
            }
        });
        b.says("FULL: an eleventh SOUGHT one;", () -> {
            b.full("BY DEFAULT", Boundary::seekTen, w -> w.otherwise(10, 3, 0));
            b.full("SEEN", w -> {
                Boundary.seekTen(w);
                w.tell(10, 1);
            }, w -> w.otherwise(10, 3, 0));
            WeightedLaws w = Boundary.of(Boundary::seekTen);
            b.fraction("one of the ten", w, w.otherwise(13, 3, 0), 1, 2);
            b.fraction("an eleventh that is SEEN", w, w.otherwise(10, 1, 0), 1, 2);
            w.tell(13, 0);
            b.fraction("a tenth", w, w.otherwise(10, 3, 10), 1, 2);
        });
        b.says("NOUGHT.", () -> {
            b.found(NOUGHT, "BARRED as before", LearnBoundaries::twoSoughtAllBarred, w -> w.otherwise(0, 1, 4));
            b.found(NOUGHT, "BARRED for once", w -> {
                Boundary.seek(w, 0);
                Boundary.law(w, 0, "1Ax", ONCE, 0);
            }, w -> w.otherwise(0, 2, 0));
        });
    }

    // ---- act, look

    private static void withRow(WeightedLaws w, int... ints) {
        twoSought(w);
        Boundary.fill(w, 2, ints);
    }

    private static int[] pairs(int places, int so, int notSo) {
        int[] ints = new int[places];
        for (int i = 0; i < places; i++) {
            ints[i] = i % 2 == 0 ? so : notSo;
        }
        return ints;
    }

    private void actIs(String call, int saying, int want, long upper, long lower, int... ints) {
        WeightedLaws w = Boundary.of(v -> withRow(v, ints));
        b.told(call, w, w.act(saying, 2), want, upper, lower);
    }

    private void act() {
        b.says("The first ACT (pair) with the greatest mean WORTH;", () -> {
            actIs("one pair", 0, 0, 5 * 5 + 8 * 2, 13, 5, 2);
            actIs("alike ones", 0, 0, 3, 1, pairs(40, 3, 3));
            int[] last = pairs(40, 3, 3);
            last[38] = 4;
            actIs("the last one of twenty", 0, 19, 4 * 5 + 3 * 8, 13, last);
            actIs("the second of two and its like", 0, 1, 9, 1, 8, 8, 9, 9, 9, 9, 0, 0);
        });
        b.says("that mean told by upper(), lower().", () -> {
            actIs("the greatest WORTH", 0, 0, 99, 1, 99, 99);
            actIs("the least WORTH", 0, 0, -99, 1, -99, -99);
            actIs("below 0", 0, 0, 99 * 5 - 99 * 8, 13, 99, -99);
            actIs("0 by 1", 0, 0, 0, 1, 8, -5);
            actIs("of what is never so", 27, 1, 5, 1, 99, 4, -99, 5);
        });
        b.says("BAD;", () -> {
            for (int s : NO_SAYINGS) {
                b.bad("act(" + s + ", 2)", w -> withRow(w, 1, 2), w -> w.act(s, 2));
            }
            for (int r : NO_ROWS) {
                b.bad("act(0, " + r + ")", w -> withRow(w, 1, 2), w -> w.act(0, r));
            }
        });
        b.says("NOTHING;", () -> b.found(NOTHING, "act(0, 3)", w -> withRow(w, 1, 2), w -> w.act(0, 3)));
        b.says("SIZE: no pairs,", () -> b.found(SIZE, "an empty ROW", w -> withRow(w), w -> w.act(0, 2)));
        b.says("or not by twos;", () -> {
            for (int n : new int[] {1, 3, 39}) {
                b.found(SIZE, n + " places", w -> withRow(w, pairs(n, 1, 2)), w -> w.act(0, 2));
            }
        });
        b.says("UNLIKE: a number;", () -> {
            for (int worth : new int[] {100, -100, LOW, HIGH}) {
                for (int place : new int[] {0, 1, 39}) {
                    b.found(UNLIKE, worth + " at " + place, wrongNumber(worth, place), w -> w.act(0, 2));
                }
            }
        });
        b.says("NOUGHT.", () -> b.found(NOUGHT, "all are BARRED", w -> {
            withRow(w, 1, 2);
            Boundary.barAll(w);
        }, w -> w.act(0, 2)));
    }

    private static Consumer<WeightedLaws> wrongNumber(int worth, int place) {
        return w -> {
            withRow(w, pairs(40, 99, -99));
            w.lay(2, place, worth);
        };
    }

    private void look() {
        b.says("What a LOOK at another SAYING is worth, told by upper(), lower(): 1.", () -> {
            WeightedLaws w = Boundary.of(v -> withRow(v, 10, -10, -10, 10));
            b.fraction("at the other one", w, w.look(0, 2, 4), 0 + 30 - 30, 1);
            b.fraction("at itself", w, w.look(0, 2, 0), 130 - 30, 13);
            b.fraction("at what is never so", w, w.look(0, 2, 8), 0, 1);
            b.fraction("at what is of no name", w, w.look(0, 2, 27), 0, 1);
            b.fraction("of what is of no name", w, w.look(27, 2, 0), 0, 1);
            Boundary.fill(w, 3, 99, -99, -99, 99);
            b.fraction("by the greatest and the least WORTH", w, w.look(0, 3, 0), 99 * 13 - 99 * 3, 13);
            Boundary.fill(w, 4, -99, 99);
            b.fraction("by one ACT", w, w.look(0, 4, 0), 0, 1);
        });
        b.says("Likewise.", () -> {
            for (int s : NO_SAYINGS) {
                b.bad("look(" + s + ", 2, 0)", w -> withRow(w, 1, 2), w -> w.look(s, 2, 0));
                b.bad("look(0, 2, " + s + ")", w -> withRow(w, 1, 2), w -> w.look(0, 2, s));
            }
            for (int r : NO_ROWS) {
                b.bad("look(0, " + r + ", 4)", w -> withRow(w, 1, 2), w -> w.look(0, r, 4));
            }
            b.found(NOTHING, "look(0, 3, 4)", w -> withRow(w, 1, 2), w -> w.look(0, 3, 4));
            b.found(SIZE, "an empty ROW", w -> withRow(w), w -> w.look(0, 2, 4));
            b.found(SIZE, "three places", w -> withRow(w, 1, 2, 3), w -> w.look(0, 2, 4));
            for (int worth : new int[] {100, -100, LOW, HIGH}) {
                b.found(UNLIKE, worth + " at 0", wrongNumber(worth, 0), w -> w.look(0, 2, 4));
                b.found(UNLIKE, worth + " at 39", wrongNumber(worth, 39), w -> w.look(0, 2, 4));
            }
            b.found(NOUGHT, "all are BARRED", w -> {
                withRow(w, 1, 2);
                Boundary.barAll(w);
            }, w -> w.look(0, 2, 4));
        });
    }

    // ---- wrong, held

    private void wrong() {
        b.says("WRONG; by how much the COST falls by asked()", () -> {
            WeightedLaws w = Boundary.of(v -> {
                v.names(4);
                v.tell(0, 2);
                v.tell(27, 1);
                Boundary.law(v, 0, "Ax", SOFT, 1);
            });
            b.asked("by 1, the first SAYING", w, w.wrong(), 0, 1);
            Boundary.law(w, 1, "!Fxx", SOFT, 9);
            b.asked("by 9, the last SAYING", w, w.wrong(), 27, 9);
            WeightedLaws most = Boundary.of(v -> {
                v.names(4);
                v.tell(0, 2);
                for (int k = 0; k < 8; k++) {
                    Boundary.law(v, k, "Ax|Ay", SOFT, 9);
                }
            });
            b.asked("by seven CASES of each LAW", most, most.wrong(), 0, 8 * 9 * 7);
        });
        b.says("(1000, if there was no WORLD).", () -> {
            WeightedLaws w = Boundary.of(v -> {
                v.tell(0, 1);
                v.tell(1, 1);
                Boundary.law(v, 0, "1Ax", ONCE, 0);
            });
            b.asked("from no WORLD", w, w.wrong(), 0, 1000);
            Boundary.law(w, 1, "Ax|By", SOFT, 9);
            b.asked("from no WORLD to one that costs", w, w.wrong(), 0, 1000);
            b.is("how(0) stays", w.how(0), 1);
            b.is("there is still none", w.likeliest(), NONE);
        });
        b.says("NONE: by none.", () -> {
            b.none("nothing is SEEN", LearnBoundaries::twoSought, w -> w.wrong());
            b.none("by 0", w -> {
                w.tell(0, 1);
                w.tell(4, 2);
            }, w -> w.wrong());
            b.none("it would be dearer", w -> {
                w.tell(0, 1);
                Boundary.law(w, 0, "Ax", SOFT, 9);
            }, w -> w.wrong());
            b.none("there would be no WORLD", w -> {
                w.tell(0, 1);
                Boundary.law(w, 0, "1Ax", ONCE, 0);
                Boundary.law(w, 1, "!Ax", SOFT, 9);
            }, w -> w.wrong());
            b.none("no WORLD either way", w -> {
                w.tell(0, 1);
                Boundary.barAll(w);
            }, w -> w.wrong());
            b.none("BY DEFAULT is not SEEN", w -> Boundary.law(w, 0, "Ax", SOFT, 9), w -> w.wrong());
        });
    }

    private void held() {
        b.says("HELD by a ROW: of a tenth how many were so; of how many by asked().", () -> {
            WeightedLaws w = Boundary.of(v -> Boundary.fill(v, 5, 0, 1, 10, 0, 10, 1, 0, 1, 5, 0));
            b.asked("held(5, 0)", w, w.held(5, 0), 2, 2);
            b.asked("held(5, 10)", w, w.held(5, 10), 1, 2);
            b.asked("held(5, 5)", w, w.held(5, 5), 0, 1);
            b.asked("held(5, 9) of none", w, w.held(5, 9), 0, 0);
            WeightedLaws empty = Boundary.of(v -> {
                Boundary.fill(v, 4, 3);
                v.at(4, 0);
                v.row(5, 0);
            });
            b.asked("held of an empty ROW", empty, empty.held(5, 0), 0, 0);
            WeightedLaws full = Boundary.of(v -> Boundary.fill(v, 0, pairs(40, 10, 1)));
            b.asked("held of a full ROW", full, full.held(0, 10), 20, 20);
        });
        b.says("BAD;", () -> {
            for (int r : NO_ROWS) {
                b.bad("held(" + r + ", 0)", w -> withRow(w, 1, 1), w -> w.held(r, 0));
            }
            for (int tenth : new int[] {-1, 11, LOW, HIGH}) {
                b.bad("held(2, " + tenth + ")", w -> withRow(w, 1, 1), w -> w.held(2, tenth));
            }
        });
        b.says("NOTHING;", () -> b.found(NOTHING, "held(3, 0)", w -> withRow(w, 1, 1), w -> w.held(3, 0)));
        b.says("SIZE: not by twos;", () -> {
            for (int n : new int[] {1, 3, 39}) {
                b.found(SIZE, n + " places", w -> withRow(w, pairs(n, 1, 1)), w -> w.held(2, 1));
            }
        });
        b.says("UNLIKE: a number.", () -> {
            int[][] numbers = {{11, 0}, {-1, 0}, {LOW, 38}, {HIGH, 38}, {2, 1}, {-1, 1}, {LOW, 39}, {HIGH, 39}};
            for (int[] n : numbers) {
                b.found(UNLIKE, n[0] + " at " + n[1], w -> {
                    withRow(w, pairs(40, 10, 0));
                    w.lay(2, n[1], n[0]);
                }, w -> w.held(2, 3));
            }
        });
    }
}
