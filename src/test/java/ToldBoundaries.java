import java.util.function.Consumer;
import java.util.function.ToIntFunction;

/** Boundary cases of promises 37 to 43: what is told, counted, found, and the digest. */
final class ToldBoundaries {
    private static final int LOW = Boundary.LOW, HIGH = Boundary.HIGH;
    private static final int NOTHING = Boundary.NOTHING, BEYOND = Boundary.BEYOND, UNLIKE = Boundary.UNLIKE;
    private static final int NOUGHT = Boundary.NOUGHT, SIZE = Boundary.SIZE;
    private static final int NOTE = Boundary.NOTE, HARD = Boundary.HARD, SOFT = Boundary.SOFT;
    private static final int COUNT = Boundary.COUNT, ONCE = Boundary.ONCE;

    private final Boundary b;

    ToldBoundaries(Boundary boundary) {
        b = boundary;
    }

    void run() {
        b.section("Promise 37: asked", this::asked);
        b.section("Promise 38: upper", this::upper);
        b.section("Promise 39: lower", this::lower);
        b.section("Promise 40: count", this::count);
        b.section("Promise 41: finding", this::finding);
        b.section("Promise 42: findings", this::findings);
        b.section("Promise 43: digest", this::digest);
    }

    /** A of 0 is SOUGHT, A of 1 SEEN so, B of 0 SEEN not so; each call of the class can be answered. */
    private static void allThere(WeightedLaws w) {
        w.tell(0, 3);
        w.tell(1, 1);
        w.tell(4, 2);
        Boundary.law(w, 0, "Ax|By", SOFT, 2);
        Boundary.law(w, 1, "!Cx", HARD, 0);
        Boundary.fill(w, 0, 7, 5);
        Boundary.fill(w, 1, 2, 1, 2, 1, 2, 0);
    }

    // ---- asked, upper, lower

    private void asked() {
        b.says("What the latest lay(), at(), mean(), told(), cost(), likeliest(), draw(), wrong(), held()", () -> {
            tells("lay", w -> w.lay(0, 0, 1), 7);
            tells("at", w -> w.at(0, 1), 5);
            tells("mean", w -> w.mean(0), 6);
            tells("told", w -> w.told(0, 2), 9);
            tells("cost", w -> w.cost(0), 0);
            tells("likeliest", w -> w.likeliest(), 6);
            tells("draw", w -> w.draw(-1, 1, 0), WorldBoundaries.drawn(-1, 1, 1, 64));
            tells("wrong", w -> w.wrong(), 2);
            tells("held", w -> w.held(1, 2), 3);
        });
        b.says("that was not refused", () -> {
            Consumer<WeightedLaws> start = ToldBoundaries::allThere;
            b.bad("lay", start, w -> w.lay(6, 0, 1));
            b.found(BEYOND, "at", start, w -> w.at(0, 2));
            b.found(NOTHING, "mean", start, w -> w.mean(5));
            b.bad("told", start, w -> w.told(0, 3));
            b.bad("cost", start, w -> w.cost(2));
            b.bad("draw", start, w -> w.draw(0, 0, 0));
            b.found(SIZE, "held", w -> {
                allThere(w);
                w.row(1, 1);
            }, w -> w.held(1, 0));
        });
        b.says("(nor NONE) told;", () -> {
            b.none("likeliest", w -> {
                allThere(w);
                Boundary.barAll(w);
            }, w -> w.likeliest());
            b.none("wrong", w -> {
                allThere(w);
                w.weight(0, 0);
            }, w -> w.wrong());
            keeps("others that are answered", ToldBoundaries::useOthers);
        });
        b.says("0 before.", () -> {
            WeightedLaws w = new WeightedLaws();
            b.is("asked() of a new object", w.asked(), 0);
            useOthers(w);
            w.at(5, 9);
            w.told(7, 0);
            w.cost(-1);
            b.is("asked() behind others and refused ones", w.asked(), 0);
        });
    }

    /** What a call tells, behind another number that was told. */
    private void tells(String call, ToIntFunction<WeightedLaws> use, int asked) {
        WeightedLaws w = Boundary.of(ToldBoundaries::allThere);
        Boundary.fill(w, 5, -77);
        w.at(5, 0);
        use.applyAsInt(w);
        b.is(call + " asked()", w.asked(), asked);
        b.is(call + " asked() again", w.asked(), asked);
    }

    private void keeps(String what, Consumer<WeightedLaws> use) {
        WeightedLaws w = Boundary.of(ToldBoundaries::allThere);
        Boundary.fill(w, 5, -77);
        w.at(5, 0);
        use.accept(w);
        b.is("asked() behind " + what, w.asked(), -77);
    }

    /** Calls that tell nothing by asked(). */
    private static void useOthers(WeightedLaws w) {
        w.row(4, 2);
        w.copy(0, 0, 0, 0, 1);
        w.tear(4);
        w.text(2, 2);
        w.put(2, 0, 66);
        w.fault(2, HARD);
        w.law(6, 2, HARD, 0);
        w.drop(6);
        w.names(4);
        w.tell(3, 1);
        w.how(3);
        w.weight(0, 3);
        w.mark(0, SOFT);
        w.worlds();
        w.broken(0, 0);
        w.near(9);
        w.odds(0);
        w.both(0, 1);
        w.given(0, 1);
        w.alike(0, 1);
        w.learn(0, 1, 0);
        w.pull(0, 0);
        w.why(0);
        w.otherwise(0, 1, 1);
        w.act(0, 0);
        w.look(0, 0, 1);
        w.upper();
        w.lower();
        w.count(0);
        w.finding();
        w.findings(1);
        w.digest();
    }

    private void upper() {
        b.says("The upper number of the fraction that was told last;", () -> {
            WeightedLaws w = Boundary.of(ToldBoundaries::allThere);
            w.odds(0);
            b.is("odds", w.upper(), 64);
            w.pull(0, 4);
            b.is("pull of nought", w.upper(), 0);
            w.odds(0);
            w.odds(28);
            w.given(0, 8);
            w.pull(7, 0);
            w.act(0, 5);
            w.wrong();
            w.mean(0);
            b.is("refused ones and others tell none", w.upper(), 64);
            w.act(0, 0);
            b.is("act", w.upper(), 7 * 64 + 5);
            w.learn(1, 1, 0);
            b.is("learn", w.upper(), 512);
            WeightedLaws below = Boundary.of(v -> {
                Boundary.seek(v, 0);
                Boundary.law(v, 0, "!Ax", HARD, 0);
            });
            below.pull(0, 0);
            b.is("below 0", below.upper(), -1);
        });
        b.says("0 before.", () -> {
            WeightedLaws w = new WeightedLaws();
            b.is("upper() of a new object", w.upper(), 0);
            w.odds(28);
            w.given(0, 0);
            w.cost(0);
            b.is("upper() behind refused ones", w.upper(), 0);
        });
    }

    private void lower() {
        b.says("Its lower number;", () -> {
            WeightedLaws w = Boundary.of(ToldBoundaries::allThere);
            w.odds(0);
            b.is("odds", w.lower(), 65);
            w.odds(28);
            w.given(0, 8);
            w.likeliest();
            b.is("refused ones and others tell none", w.lower(), 65);
            w.odds(8);
            b.is("nought", w.lower(), 1);
        });
        b.says("1 before.", () -> {
            WeightedLaws w = new WeightedLaws();
            b.is("lower() of a new object", w.lower(), 1);
            w.odds(28);
            w.given(0, 0);
            b.is("lower() behind refused ones", w.lower(), 1);
        });
    }

    // ---- count, finding, findings

    private static void fullOfAll(WeightedLaws w) {
        w.names(4);
        for (int s = 0; s < 28; s++) {
            w.tell(s, s < 10 ? 3 : 1 + s % 2);
        }
        for (int k = 0; k < 8; k++) {
            Boundary.law(w, k, k < 4 ? "Ax" : "1Ax", k < 4 ? HARD : ONCE, 0);
        }
        for (int r = 0; r < 6; r++) {
            w.row(r, 0);
        }
        for (int t = 0; t < 4; t++) {
            w.text(t, 0);
        }
    }

    private void countIs(int what, int atFirst, int fully) {
        b.is("count(" + what + ") at first", new WeightedLaws().count(what), atFirst);
        b.is("count(" + what + ") of as many as can be", Boundary.of(ToldBoundaries::fullOfAll).count(what), fully);
    }

    private void count() {
        b.says("0 NAMES,", () -> countIs(0, 3, 4));
        b.says("1 SOUGHT,", () -> countIs(1, 0, 10));
        b.says("2 SEEN SAYINGS,", () -> countIs(2, 0, 18));
        b.says("3 LAWS,", () -> countIs(3, 0, 8));
        b.says("4 HARD ones (ONCE, too),", () -> {
            countIs(4, 0, 8);
            WeightedLaws w = Boundary.of(v -> {
                Boundary.law(v, 0, "Ax", NOTE, 0);
                Boundary.law(v, 1, "Ax", SOFT, 0);
                Boundary.law(v, 2, "#1Ax", COUNT, 0);
            });
            b.is("count(4) of none of these", w.count(4), 0);
            b.is("count(3) of these", w.count(3), 3);
        });
        b.says("5 ROWS,", () -> countIs(5, 0, 6));
        b.says("6 TEXTS that are there.", () -> countIs(6, 0, 4));
        b.says("BAD.", () -> {
            for (int what : new int[] {-1, 7, LOW, HIGH}) {
                b.bad("count(" + what + ")", ToldBoundaries::allThere, w -> w.count(what));
            }
        });
    }

    /** Calls that find each of 1 to 5, by numbers. */
    private static int find(WeightedLaws w, int finding) {
        switch (finding) {
            case NOTHING:
                return w.tear(5);
            case BEYOND:
                return w.at(0, 2);
            case UNLIKE:
                return w.weight(1, 1);
            case NOUGHT:
                return w.given(0, 8);
            default:
                return w.row(0, -1);
        }
    }

    private void finding() {
        b.says("The latest FINDING", () -> {
            WeightedLaws w = Boundary.of(ToldBoundaries::allThere);
            for (int f : new int[] {SIZE, NOTHING, UNLIKE, BEYOND, NOUGHT, NOTHING}) {
                b.is("a call that finds " + f, find(w, f), Boundary.FINDING);
                b.is("finding()", w.finding(), f);
                w.row(6, -1);
                w.names(0);
                w.at(0, 0);
                b.is("finding() behind BAD and answered calls", w.finding(), f);
            }
            w.names(1);
            b.is("finding() behind STATE", w.finding(), NOTHING);
        });
        b.says("(0 before any).", () -> {
            WeightedLaws w = new WeightedLaws();
            b.is("finding() of a new object", w.finding(), 0);
            w.row(6, -1);
            Boundary.barAll(w);
            w.likeliest();
            b.is("finding() behind BAD and NONE", w.finding(), 0);
        });
    }

    private void findings() {
        b.says("How often a FINDING (1 .. 5) was answered.", () -> {
            WeightedLaws w = Boundary.of(ToldBoundaries::allThere);
            for (int f = NOTHING; f <= SIZE; f++) {
                b.is("findings(" + f + ") before any", w.findings(f), 0);
                for (int i = 0; i < f; i++) {
                    find(w, f);
                }
            }
            w.row(6, -1);
            w.names(0);
            for (int f = NOTHING; f <= SIZE; f++) {
                b.is("findings(" + f + ")", w.findings(f), f);
            }
        });
        b.says("BAD.", () -> {
            for (int f : new int[] {0, 6, -1, LOW, HIGH}) {
                b.bad("findings(" + f + ")", ToldBoundaries::allThere, w -> w.findings(f));
            }
        });
    }

    // ---- digest

    /** The digest by its own words, from what the other calls tell; that of the signs is told beside. */
    private static long digestBy(WeightedLaws w, int[] sizes, int[] bytes) {
        long h = 17;
        for (int what = 0; what <= 6; what++) {
            h = 31 * h + w.count(what);
        }
        for (int s = 0; s < 28; s++) {
            h = 31 * h + w.how(s);
        }
        for (int k = 0; k < 8; k++) {
            h = digestOfLaw(h, w, k);
        }
        for (int r = 0; r < 6; r++) {
            h = 31 * h + sizes[r];
            for (int i = 0; i < sizes[r]; i++) {
                w.at(r, i);
                h = 31 * h + w.asked();
            }
        }
        for (int v : bytes) {
            h = 31 * h + v;
        }
        return h;
    }

    private static long digestOfLaw(long before, WeightedLaws w, int k) {
        if (w.told(k, 0) != 1) {
            return 31 * before - 1;
        }
        int kind = w.asked();
        long h = before;
        for (int what = 0; what <= 2; what++) {
            w.told(k, what);
            h = 31 * h + w.asked();
        }
        return 31 * h + (kind == NOTE ? 0 : w.mark(k, kind));
    }

    private static final int[] ALL_MISSING = {-1, -1, -1, -1, -1, -1};
    private static final int[] NO_TEXTS = {-1, -1, -1, -1};

    private void digestIs(String when, int[] sizes, int[] bytes, Consumer<WeightedLaws> start) {
        long got = Boundary.of(start).digest();
        b.is("digest() " + when, got, digestBy(Boundary.of(start), sizes, bytes));
    }

    private void digest() {
        b.says("h = 17; then h = 31 h + v for each v:", () -> {
            // A new object: h wraps around more than once by all its numbers.
            long h = 17;
            int[] counts = {3, 0, 0, 0, 0, 0, 0};
            for (int v : counts) {
                h = 31 * h + v;
            }
            for (int i = 0; i < 28; i++) {
                h = 31 * h;
            }
            for (int i = 0; i < 8 + 6 + 4; i++) {
                h = 31 * h - 1;
            }
            b.is("digest() of a new object", new WeightedLaws().digest(), h);
        });
        b.says("count() 0 to 6;", () -> {
            digestIs("of as many as can be", new int[6], new int[4], ToldBoundaries::fullOfAll);
            digestIs("of one name", ALL_MISSING, NO_TEXTS, w -> w.names(1));
        });
        b.says("how() of each SAYING;", () -> {
            for (int s = 0; s < 28; s++) {
                int saying = s;
                digestIs("with " + s + " told", ALL_MISSING, NO_TEXTS, w -> {
                    w.names(4);
                    w.tell(saying, 1 + saying % 3);
                });
            }
        });
        b.says("of each LAW (-1 once: missing) told() 0 to 2,", () -> {
            int[] bytes = {-1, -1, -1, 4, '!', 'F', 'x', 'y'};
            for (int k : new int[] {0, 7}) {
                digestIs("with LAW " + k, ALL_MISSING, bytes, w -> Boundary.law(w, k, "!Fxy", HARD, 0));
            }
            digestIs("with a LAW dropped", ALL_MISSING, bytes, w -> {
                Boundary.law(w, 7, "!Fxy", HARD, 0);
                w.drop(7);
            });
            digestIs("with CASES by the NAMES as they are", ALL_MISSING, bytes, w -> {
                Boundary.law(w, 7, "!Fxy", HARD, 0);
                w.names(1);
            });
        });
        b.says("what mark() tells by its own KIND (KIND 0: 0);", () -> {
            String[] signs = {"!Ax", "!Ax", "!Ax", "#4!Ax", "1!Cx"};
            for (int kind = NOTE; kind <= ONCE; kind++) {
                int of = kind;
                digestIs("of KIND " + kind, ALL_MISSING, bytesOf(signs[kind]),
                    w -> Boundary.law(w, 3, signs[of], of, 9));
            }
        });
        b.says("of each ROW its size (-1: missing) and places,", this::digestOfRows);
        b.says("of each TEXT likewise.", this::digestOfTexts);
    }

    /** TEXT 3 alone, as it is behind law(). */
    private static int[] bytesOf(String signs) {
        int[] bytes = new int[4 + signs.length()];
        java.util.Arrays.fill(bytes, 0, 3, -1);
        bytes[3] = signs.length();
        for (int i = 0; i < signs.length(); i++) {
            bytes[4 + i] = signs.charAt(i);
        }
        return bytes;
    }

    private void digestOfRows() {
        for (int r = 0; r < 6; r++) {
            for (int n : new int[] {0, 1, 40}) {
                int row = r;
                int[] sizes = ALL_MISSING.clone();
                sizes[r] = n;
                digestIs("of ROW " + r + " with " + n, sizes, NO_TEXTS, w -> {
                    w.row(row, n);
                    w.lay(row, n - 1, LOW);
                });
            }
        }
        digestIs("with a ROW torn", ALL_MISSING, NO_TEXTS, w -> {
            Boundary.fill(w, 3, HIGH);
            w.tear(3);
        });
        digestIs("with a ROW made less", new int[] {1, -1, -1, -1, -1, -1}, NO_TEXTS, w -> {
            Boundary.fill(w, 0, 1, 2, 3);
            w.row(0, 1);
        });
    }

    private void digestOfTexts() {
        digestIs("of an empty TEXT", ALL_MISSING, new int[] {0, -1, -1, -1}, w -> w.text(0, 0));
        digestIs("of an empty last TEXT", ALL_MISSING, new int[] {-1, -1, -1, 0}, w -> w.text(3, 0));
        digestIs("of blanks", ALL_MISSING, new int[] {-1, 2, 32, 32, -1, -1}, w -> w.text(1, 2));
        digestIs("of bytes below 0", ALL_MISSING, new int[] {-1, -1, 2, -128, 127, -1}, w -> {
            w.text(2, 2);
            w.put(2, 0, 128);
            w.put(2, 1, 127);
        });
        int[] forty = new int[44];
        java.util.Arrays.fill(forty, 32);
        forty[0] = 40;
        java.util.Arrays.fill(forty, 41, 44, -1);
        digestIs("of forty", ALL_MISSING, forty, w -> w.text(0, 40));
    }
}
