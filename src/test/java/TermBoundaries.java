import java.util.function.Consumer;
import java.util.function.ToIntFunction;

/** Boundary cases of the document's first words and of its Terms: refusals, fractions, and the first of three parts. */
final class TermBoundaries {
    private static final int LOW = Boundary.LOW, HIGH = Boundary.HIGH, NONE = Boundary.NONE;
    private static final int NOTHING = Boundary.NOTHING, BEYOND = Boundary.BEYOND, UNLIKE = Boundary.UNLIKE;
    private static final int NOUGHT = Boundary.NOUGHT, SIZE = Boundary.SIZE;
    private static final int NOTE = Boundary.NOTE, HARD = Boundary.HARD, SOFT = Boundary.SOFT;
    private static final int COUNT = Boundary.COUNT, ONCE = Boundary.ONCE;

    private final Boundary b;

    TermBoundaries(Boundary boundary) {
        b = boundary;
    }

    void run() {
        b.section("What it is", this::whatItIs);
        b.section("Terms", this::terms);
    }

    private void whatItIs() {
        b.says("An object is used for at most 512 calls after it has been made; what later calls answer is free.",
            this::lastCall);
    }

    private void lastCall() {
        WeightedLaws w = new WeightedLaws();
        for (int call = 1; call < 512; call++) {
            w.tear(call % 6);
        }
        b.is("the 512th call", w.findings(NOTHING), 511);
        WeightedLaws full = Boundary.of(Boundary::seekTen);
        for (int call = 11; call < 512; call++) {
            full.why(0);
        }
        b.is("the 512th call, behind dear ones", full.likeliest(), 0);
    }

    private void terms() {
        refusals();
        findings();
        b.says("Fractions are told by upper() (may be below 0) and lower(), in lowest terms, the lower number above 0 "
            + "(0 by 1).", this::fractions);
        b.says("Sets are told by bits.", this::sets);
        rowsAndTexts();
        namesAndSayings();
        new LawTermBoundaries(b).run();
        new WorldTermBoundaries(b).run();
        new LearnTermBoundaries(b).run();
    }

    /** A of 0 is SOUGHT, A of 1 SEEN so, B of 0 SEEN not so; each call of the class can be answered. */
    static void allThere(WeightedLaws w) {
        w.tell(0, 3);
        w.tell(1, 1);
        w.tell(4, 2);
        Boundary.law(w, 0, "Ax|By", SOFT, 2);
        Boundary.law(w, 1, "!Cx", HARD, 0);
        Boundary.law(w, 2, "Ax", NOTE, 0);
        Boundary.fill(w, 0, 7, 5);
        Boundary.fill(w, 1, 2, 1, 2, 1, 2, 0);
    }

    private static void allThereAllBarred(WeightedLaws w) {
        allThere(w);
        Boundary.law(w, 3, "Cx", HARD, 0);
    }

    // ---- refusals

    private void refusals() {
        b.says("Refused is, the first of these that fits, in this order: "
            + "BAD -1 (a number that is none, or not as told),", this::badAheadOfAll);
        b.says("FULL -2,", this::fullAheadOfFindings);
        b.says("STATE -4 (not now),", () -> {
            b.is("STATE", WeightedLaws.STATE, -4);
            b.bad("names(0): BAD ahead of STATE", TermBoundaries::allThere, w -> w.names(0));
            b.state("names(1)", TermBoundaries::allThere, w -> w.names(1));
        });
        b.says("FINDING -3 (finding() tells which),", () -> {
            b.is("FINDING", WeightedLaws.FINDING, -3);
            b.found(NOTHING, "tear(5)", TermBoundaries::allThere, w -> w.tear(5));
            b.found(SIZE, "row(5, -1)", TermBoundaries::allThere, w -> w.row(5, -1));
            findingsInOrder();
        });
        b.says("unless a call says so otherwise.", () -> {
            b.found(NOTHING, "law(0, 0, 1, 0): STATE behind NOTHING", TermBoundaries::allThere,
                w -> w.law(0, 0, HARD, 0));
            b.found(NOUGHT, "learn(0, 1, 0): STATE last", TermBoundaries::allThereAllBarred, w -> w.learn(0, 1, 0));
        });
        b.says("NONE -9.", () -> {
            b.is("NONE", WeightedLaws.NONE, -9);
            b.none("likeliest()", TermBoundaries::allThereAllBarred, w -> w.likeliest());
        });
        b.says("What is refused changes nothing but finding(), findings().", this::refusedByEachCall);
    }

    private void badAheadOfAll() {
        b.is("BAD", WeightedLaws.BAD, -1);
        Consumer<WeightedLaws> start = TermBoundaries::allThereAllBarred;
        b.bad("row(6, -1): ahead of SIZE", start, w -> w.row(6, -1));
        b.bad("lay(6, -1, 0): ahead of BEYOND", start, w -> w.lay(6, -1, 0));
        b.bad("at(-1, 99): ahead of BEYOND", start, w -> w.at(-1, 99));
        b.bad("copy(5, 0, 6, 0, -1): ahead of SIZE, NOTHING", start, w -> w.copy(5, 0, 6, 0, -1));
        b.bad("copy(-1, 9, 0, 9, 9): ahead of BEYOND", start, w -> w.copy(-1, 9, 0, 9, 9));
        b.bad("text(4, -1): ahead of SIZE", start, w -> w.text(4, -1));
        b.bad("put(4, -1, 0): ahead of BEYOND", start, w -> w.put(4, -1, 0));
        b.bad("fault(0, 5): ahead of NOTHING", start, w -> w.fault(0, 5));
        b.bad("law(8, 0, 1, 0): ahead of NOTHING", start, w -> w.law(8, 0, HARD, 0));
        b.bad("law(0, 0, 2, 10): ahead of NOTHING", start, w -> w.law(0, 0, SOFT, 10));
        b.bad("law(0, 3, 3, 10): ahead of STATE", start, w -> w.law(0, 3, COUNT, 10));
        b.bad("weight(7, 10): ahead of NOTHING", start, w -> w.weight(7, 10));
        b.bad("weight(1, 10): ahead of UNLIKE", start, w -> w.weight(1, 10));
        b.bad("told(7, 3): ahead of NOTHING", start, w -> w.told(7, 3));
        b.bad("mark(7, 0): ahead of NOTHING", start, w -> w.mark(7, 0));
        b.bad("mark(2, 0): ahead of UNLIKE", start, w -> w.mark(2, 0));
        b.bad("broken(7, 2): ahead of NOTHING", start, w -> w.broken(7, 2));
        b.bad("odds(28): ahead of NOUGHT", start, w -> w.odds(28));
        b.bad("both(0, 28): ahead of NOUGHT", start, w -> w.both(0, 28));
        b.bad("given(28, 0): ahead of NOUGHT", start, w -> w.given(28, 0));
        b.bad("draw(0, 201, 0): ahead of NOUGHT", start, w -> w.draw(0, 201, 0));
        badAheadOfLater(start);
    }

    private void badAheadOfLater(Consumer<WeightedLaws> start) {
        b.bad("learn(2, 128, 0): ahead of NOTHING", start, w -> w.learn(2, 128, 0));
        b.bad("learn(0, 2, 3): ahead of UNLIKE", start, w -> w.learn(0, 2, 3));
        b.bad("learn(0, 1, -1): ahead of NOUGHT", start, w -> w.learn(0, 1, -1));
        b.bad("pull(7, 28): ahead of NOTHING", start, w -> w.pull(7, 28));
        b.bad("pull(0, 28): ahead of NOUGHT", start, w -> w.pull(0, 28));
        b.bad("why(28): ahead of NOUGHT", start, w -> w.why(28));
        b.bad("otherwise(0, 4, 0): ahead of NOUGHT", start, w -> w.otherwise(0, 4, 0));
        b.bad("act(28, 5): ahead of NOTHING", start, w -> w.act(28, 5));
        b.bad("act(28, 0): ahead of NOUGHT", start, w -> w.act(28, 0));
        b.bad("look(0, 5, 28): ahead of NOTHING", start, w -> w.look(0, 5, 28));
        b.bad("held(5, 11): ahead of NOTHING", start, w -> w.held(5, 11));
        b.bad("tell(3, 3): ahead of FULL", Boundary::seekTen, w -> w.tell(3, 3));
        b.bad("tell(28, 3): ahead of FULL", Boundary::seekTen, w -> w.tell(28, 3));
        b.bad("otherwise(3, 3, 0): ahead of FULL", Boundary::seekTen, w -> w.otherwise(3, 3, 0));
        b.bad("otherwise(10, 3, 28): ahead of FULL", Boundary::seekTen, w -> w.otherwise(10, 3, 28));
        b.bad("names(5): ahead of STATE", Boundary::seekTen, w -> w.names(5));
    }

    private void fullAheadOfFindings() {
        b.is("FULL", WeightedLaws.FULL, -2);
        b.full("otherwise(10, 3, 0): ahead of NOUGHT", w -> {
            Boundary.seekTen(w);
            Boundary.barAll(w);
        }, w -> w.otherwise(10, 3, 0));
        b.full("tell(10, 3)", Boundary::seekTen, w -> w.tell(10, 3));
    }

    /** Where more than one FINDING fits a call, it is the one that its promise tells first. */
    private void findingsInOrder() {
        Consumer<WeightedLaws> start = TermBoundaries::allThereAllBarred;
        b.found(SIZE, "copy: SIZE ahead of NOTHING, from", start, w -> w.copy(5, 0, 0, 0, -1));
        b.found(SIZE, "copy: SIZE ahead of NOTHING, to", start, w -> w.copy(0, 0, 5, 0, -1));
        b.found(SIZE, "copy: SIZE ahead of BEYOND", start, w -> w.copy(0, 9, 1, -1, -1));
        b.found(NOTHING, "copy: NOTHING ahead of BEYOND, from", start, w -> w.copy(5, 0, 0, 9, 1));
        b.found(NOTHING, "copy: NOTHING ahead of BEYOND, to", start, w -> w.copy(0, 9, 5, 0, 1));
        b.found(NOTHING, "learn: NOTHING ahead of UNLIKE", start, w -> w.learn(0, 2 | 64, 0));
        b.found(NOTHING, "learn: NOTHING ahead of NOUGHT", start, w -> w.learn(0, 64, 0));
        b.found(UNLIKE, "learn: UNLIKE ahead of NOUGHT", start, w -> w.learn(0, 2, 0));
        b.found(NOTHING, "pull: NOTHING ahead of NOUGHT", start, w -> w.pull(6, 0));
        b.found(NOTHING, "act: NOTHING ahead of NOUGHT", start, w -> w.act(0, 5));
        b.found(NOTHING, "look: NOTHING ahead of NOUGHT", start, w -> w.look(0, 5, 1));
        Consumer<WeightedLaws> odd = withRow(start, 100, 11, 2);
        b.found(SIZE, "act: SIZE ahead of UNLIKE, NOUGHT", odd, w -> w.act(0, 0));
        b.found(SIZE, "look: SIZE ahead of UNLIKE, NOUGHT", odd, w -> w.look(0, 0, 1));
        b.found(SIZE, "held: SIZE ahead of UNLIKE", odd, w -> w.held(0, 0));
        Consumer<WeightedLaws> empty = withRow(start);
        b.found(SIZE, "act: SIZE ahead of NOUGHT, no pairs", empty, w -> w.act(0, 0));
        b.found(SIZE, "look: SIZE ahead of NOUGHT, no pairs", empty, w -> w.look(0, 0, 1));
        Consumer<WeightedLaws> unlike = withRow(start, 1, 2, 3, -100);
        b.found(UNLIKE, "act: UNLIKE ahead of NOUGHT", unlike, w -> w.act(0, 0));
        b.found(UNLIKE, "look: UNLIKE ahead of NOUGHT", unlike, w -> w.look(0, 0, 1));
    }

    private static Consumer<WeightedLaws> withRow(Consumer<WeightedLaws> start, int... ints) {
        return w -> {
            start.accept(w);
            Boundary.fill(w, 0, ints);
        };
    }

    private void refusedByEachCall() {
        Consumer<WeightedLaws> start = TermBoundaries::allThereAllBarred;
        b.found(SIZE, "row", start, w -> w.row(0, -1));
        b.found(BEYOND, "lay", start, w -> w.lay(0, 2, 9));
        b.found(BEYOND, "at", start, w -> w.at(0, 2));
        b.found(NOTHING, "tear", start, w -> w.tear(5));
        b.found(BEYOND, "copy", start, w -> w.copy(0, 0, 1, 5, 2));
        b.found(NOTHING, "mean", start, w -> w.mean(5));
        b.found(SIZE, "text", start, w -> w.text(3, -1));
        b.found(BEYOND, "put", start, w -> w.put(3, 2, 66));
        b.state("names", start, w -> w.names(1));
        b.bad("tell", start, w -> w.tell(3, 1));
        b.bad("how", start, w -> w.how(28));
        b.found(NOTHING, "fault", start, w -> w.fault(0, HARD));
        b.none("fault, that has none", start, w -> w.fault(3, HARD));
        b.state("law", start, w -> w.law(0, 3, COUNT, 9));
        b.found(NOTHING, "drop", start, w -> w.drop(7));
        b.found(UNLIKE, "weight", start, w -> w.weight(1, 9));
        b.found(NOTHING, "told", start, w -> w.told(7, 1));
        b.found(UNLIKE, "mark", start, w -> w.mark(0, HARD));
        b.bad("cost", start, w -> w.cost(2));
        b.found(NOTHING, "broken", start, w -> w.broken(7, 0));
        b.none("likeliest", start, w -> w.likeliest());
        b.bad("near", start, w -> w.near(1000));
        b.found(NOUGHT, "odds", start, w -> w.odds(1));
        b.found(NOUGHT, "both", start, w -> w.both(0, 1));
        b.found(NOUGHT, "given", start, w -> w.given(0, 1));
        b.bad("alike", start, w -> w.alike(0, 3));
        b.found(NOUGHT, "draw", start, w -> w.draw(4, 9, 0));
        b.found(NOUGHT, "learn", start, w -> w.learn(1, 1, 0));
        b.state("learn, of a BARRED WORLD", TermBoundaries::onceOfTwo, w -> w.learn(0, 1, 0));
        b.found(NOUGHT, "pull", start, w -> w.pull(0, 0));
        b.found(NOUGHT, "why", start, w -> w.why(0));
        b.none("why, of what is SEEN", TermBoundaries::allThere, w -> w.why(1));
        b.found(NOUGHT, "otherwise", start, w -> w.otherwise(0, 1, 4));
        b.found(NOUGHT, "act", start, w -> w.act(0, 0));
        b.found(NOUGHT, "look", start, w -> w.look(0, 0, 1));
        b.none("wrong", start, w -> w.wrong());
        b.found(UNLIKE, "held", start, w -> w.held(0, 5));
        b.bad("count", start, w -> w.count(7));
        b.bad("findings", start, w -> w.findings(6));
    }

    /** WORLD 0 is BARRED, WORLD 1 is not. */
    private static void onceOfTwo(WeightedLaws w) {
        Boundary.seek(w, 0);
        Boundary.law(w, 0, "!Ax", SOFT, 5);
        Boundary.law(w, 1, "1Ax", ONCE, 0);
    }

    // ---- findings

    private void findings() {
        Consumer<WeightedLaws> start = TermBoundaries::allThere;
        b.says("FINDINGS: 1 NOTHING (a ROW, a TEXT, a LAW that is missing),", () -> {
            b.found(1, "a ROW", start, w -> w.at(5, 0));
            b.found(1, "a TEXT", start, w -> w.put(0, 0, 1));
            b.found(1, "a LAW", start, w -> w.told(7, 0));
        });
        b.says("2 BEYOND (a place that there is not),", () -> {
            b.found(2, "of a ROW", start, w -> w.at(0, 2));
            b.found(2, "of a TEXT", start, w -> w.put(3, 2, 1));
            b.found(2, "below the first", start, w -> w.at(0, -1));
        });
        b.says("3 UNLIKE (a LAW of another KIND; a number that is none),", () -> {
            b.found(3, "a LAW of another KIND", start, w -> w.mark(0, ONCE));
            b.found(3, "a number that is none", w -> {
                allThere(w);
                w.lay(0, 0, 100);
            }, w -> w.act(0, 0));
        });
        b.says("4 NOUGHT (shared among none: no WORLD is left),", () -> {
            b.found(4, "no WORLD is left", TermBoundaries::allThereAllBarred, w -> w.odds(0));
            b.found(4, "none of those asked is left", start, w -> w.given(0, 8));
            b.found(4, "shared among no ints", w -> w.row(0, 0), w -> w.mean(0));
        });
        b.says("5 SIZE (fewer than none; not as many as due).", () -> {
            b.found(5, "fewer than none", start, w -> w.row(0, -1));
            b.found(5, "not as many as due", w -> {
                allThere(w);
                w.row(0, 3);
            }, w -> w.act(0, 0));
        });
    }

    private void fractions() {
        WeightedLaws w = Boundary.of(v -> {
            Boundary.seek(v, 0, 4);
            Boundary.law(v, 0, "!Ax", SOFT, 1);
            Boundary.law(v, 1, "!Bx", SOFT, 1);
            Boundary.fill(v, 0, 6, -3);
            Boundary.fill(v, 1, -9, -9);
        });
        b.fraction("below 0", w, w.pull(0, 0), -1, 6);
        b.fraction("above 0, in lowest terms", w, w.both(0, 4), 1, 9);
        b.fraction("0 by 1", w, w.odds(8), 0, 1);
        b.fraction("1 by 1", w, w.otherwise(0, 1, 0), 1, 1);
        b.fraction("0 by 1 of a difference", w, w.pull(0, 4), 0, 1);
        b.told("0 by 1 of a mean", w, w.act(0, 0), 0, 0, 1);
        b.told("below 0, by 1", w, w.act(0, 1), 0, -9, 1);
        WeightedLaws great = Boundary.of(v -> {
            Boundary.seekTen(v);
            Boundary.law(v, 0, "!Ax|!By", SOFT, 1);
        });
        great.pull(0, 0);
        b.is("the lower number is above 0 for 1024 WORLDS", great.lower() > 0 ? 1 : 0, 1);
        b.is("and the upper one below 0", great.upper() < 0 ? 1 : 0, 1);
        b.is("no number divides both", gcd(-great.upper(), great.lower()), 1);
    }

    private static long gcd(long one, long other) {
        return other == 0 ? one : gcd(other, one % other);
    }

    private void sets() {
        WeightedLaws w = Boundary.of(v -> {
            Boundary.seek(v, 0);
            Boundary.law(v, 0, "Ax", SOFT, 1);
            Boundary.law(v, 7, "Ax", SOFT, 1);
        });
        b.is("LAWS 0 and 7", w.why(0), 1 + 128);
        b.is("learn by LAWS 0 and 7", w.learn(1, 1 + 128, 0), 33);
        WeightedLaws worlds = Boundary.of(v -> {
            Boundary.seek(v, 0, 1, 2);
            Boundary.law(v, 0, "Ax", SOFT, 1);
            v.tell(1, 2);
        });
        b.is("a WORLD of two", worlds.likeliest(), 3);
    }

    // ---- 1, up to SAYINGS

    private void everyNumber(String call, int from, int to, ToIntFunction<Integer> use, int want) {
        for (int n = from; n <= to; n++) {
            b.is(call + " of " + n, use.applyAsInt(n), want);
        }
    }

    private void rowsAndTexts() {
        b.says("ROWS 0 .. 5 are rows of 0 to 40 ints,", () -> {
            everyNumber("row(n, 40)", 0, 5, n -> new WeightedLaws().row(n, 40), 40);
            everyNumber("row(n, 0)", 0, 5, n -> new WeightedLaws().row(n, 0), 0);
            b.bad("row(-1, 0)", Boundary::nothing, w -> w.row(-1, 0));
            b.bad("row(6, 0)", Boundary::nothing, w -> w.row(6, 0));
            b.bad("row(0, 41)", Boundary::nothing, w -> w.row(0, 41));
            WeightedLaws w = new WeightedLaws();
            for (int r = 0; r < 6; r++) {
                Boundary.fill(w, r, LOW + r, HIGH - r);
            }
            for (int r = 0; r < 6; r++) {
                b.asked("at(" + r + ", 0)", w, w.at(r, 0), 1, LOW + r);
                b.asked("at(" + r + ", 1)", w, w.at(r, 1), 1, HIGH - r);
            }
        });
        b.says("TEXTS 0 .. 3 rows of 0 to 40 bytes,", () -> {
            everyNumber("text(n, 40)", 0, 3, n -> new WeightedLaws().text(n, 40), 40);
            everyNumber("text(n, 0)", 0, 3, n -> new WeightedLaws().text(n, 0), 0);
            b.bad("text(-1, 0)", Boundary::nothing, w -> w.text(-1, 0));
            b.bad("text(4, 0)", Boundary::nothing, w -> w.text(4, 0));
            b.bad("text(0, 41)", Boundary::nothing, w -> w.text(0, 41));
            WeightedLaws w = new WeightedLaws();
            for (int t = 0; t < 4; t++) {
                w.text(t, 1);
                w.put(t, 0, t - 128);
            }
            for (int t = 0; t < 4; t++) {
                b.is("put(" + t + ", 0, 0)", w.put(t, 0, 0), 1000 + t - 128);
            }
        });
        b.says("or missing (at first).", () -> {
            b.is("no ROWS", new WeightedLaws().count(5), 0);
            b.is("no TEXTS", new WeightedLaws().count(6), 0);
            b.found(NOTHING, "mean(0)", Boundary::nothing, w -> w.mean(0));
            b.found(NOTHING, "put(0, 0, 1)", Boundary::nothing, w -> w.put(0, 0, 1));
        });
    }

    private void namesAndSayings() {
        b.says("NAMES are 0 .. n - 1 (n 1 .. 4; 3 at first).", () -> {
            b.is("count(0)", new WeightedLaws().count(0), 3);
            everyNumber("names(n)", 1, 4, n -> new WeightedLaws().names(n), 3);
            everyNumber("alike(n - 1, 0)", 1, 4, n -> Boundary.of(v -> v.names(n)).alike(n - 1, 0), 1);
            everyNumber("alike(n, 0)", 1, 4, n -> Boundary.of(v -> v.names(n)).alike(n, 0), Boundary.BAD);
            b.bad("names(0)", Boundary::nothing, w -> w.names(0));
            b.bad("names(5)", Boundary::nothing, w -> w.names(5));
        });
        b.says("SAYINGS 0 .. 27: A, B, C of a name x (x, 4 and x, 8 and x), F of names x and y (12, and 4 x, and y).",
            this::sayingsByNumber);
        b.says("Of names that there are not a SAYING is not looked at, and never so.", this::sayingsOfNoName);
        b.says("Each is 0 BY DEFAULT (not so; all at first),", () -> {
            everyNumber("how(n)", 0, 27, n -> new WeightedLaws().how(n), 0);
            for (int s = 0; s < 28; s++) {
                WeightedLaws w = Boundary.of(v -> v.names(4));
                b.fraction("odds(" + s + ")", w, w.odds(s), 0, 1);
            }
        });
        b.says("1 SEEN so,", () -> oddsAsTold(1, 1, 1));
        b.says("2 SEEN not so,", () -> oddsAsTold(2, 0, 1));
        b.says("3 SOUGHT (10 at most).", () -> {
            oddsAsTold(3, 1, 2);
            b.is("ten", Boundary.of(Boundary::seekTen).count(1), 10);
            b.full("an eleventh", Boundary::seekTen, w -> w.tell(10, 3));
        });
    }

    private void oddsAsTold(int how, long upper, long lower) {
        for (int s = 0; s < 28; s++) {
            int saying = s;
            WeightedLaws w = Boundary.of(v -> {
                v.names(4);
                v.tell(saying, how);
            });
            b.fraction("odds(" + s + ") told " + how, w, w.odds(s), upper, lower);
        }
    }

    /** A LAW of one part breaks just the CASES whose SAYING is not so. */
    private void sayingsByNumber() {
        String[] parts = {"Ax", "Bx", "Cx", "Fxy"};
        for (int s = 0; s < 28; s++) {
            for (int letter = 0; letter < 4; letter++) {
                int saying = s;
                int of = letter;
                WeightedLaws w = Boundary.of(v -> {
                    v.names(4);
                    v.tell(saying, 1);
                    Boundary.law(v, 0, parts[of], SOFT, 1);
                });
                int cases = letter == 3 ? 16 : 4;
                boolean isOf = Math.min(s / 4, 3) == letter;
                b.is(parts[letter] + " with " + s + " so", w.broken(0, 0), cases - (isOf ? 1 : 0));
            }
        }
        // F of x and y: which one is first tells.
        WeightedLaws w = Boundary.of(v -> {
            v.tell(13, 1);
            v.tell(1, 1);
            Boundary.law(v, 0, "!Fxy|Ay", HARD, 0);
            Boundary.law(v, 1, "!Fxy|Ax", HARD, 0);
        });
        b.is("F of 0 and 1, A of the second", w.broken(0, 0), 0);
        b.is("F of 0 and 1, A of the first", w.broken(1, 0), 1);
    }

    private void sayingsOfNoName() {
        WeightedLaws w = Boundary.of(v -> {
            v.names(1);
            v.tell(0, 1);
            Boundary.law(v, 0, "Ax|Fxy", HARD, 0);
            Boundary.law(v, 1, "#1!Bx", COUNT, 3);
            Boundary.law(v, 2, "1!Bx", ONCE, 0);
        });
        b.asked("none breaks a CASE of names that there are not", w, w.cost(0), 0, 0);
        for (int s : new int[] {1, 7, 10, 13, 16, 27}) {
            b.fraction("odds(" + s + ")", w, w.odds(s), 0, 1);
            b.is("why(" + s + ")", w.why(s), 0);
            b.is("how(" + s + ")", w.how(s), 0);
        }
        b.is("draw(1, 9, 27)", w.draw(1, 9, 27), 0);
        w.names(2);
        b.asked("they do, once there are two", w, w.cost(0), 0, 3);
        b.is("LIKELIEST is none then", w.likeliest(), NONE);
    }
}
