import java.math.BigInteger;
import java.util.function.Consumer;

/** Boundary cases of the document's Terms: LEARNING, PULL, WHY, OTHERWISE, WORTH, WRONG, HELD. */
final class LearnTermBoundaries {
    private static final int BAD = Boundary.BAD, NONE = Boundary.NONE, UNLIKE = Boundary.UNLIKE;
    private static final int NOTE = Boundary.NOTE, HARD = Boundary.HARD, SOFT = Boundary.SOFT;
    private static final int COUNT = Boundary.COUNT, ONCE = Boundary.ONCE;

    private final Boundary b;

    LearnTermBoundaries(Boundary boundary) {
        b = boundary;
    }

    void run() {
        b.says("LEARNING: a told WORLD; WEIGHTS of SOFT LAWS that are told (bits; 3 at most) are each 0 .. 3 "
            + "so that its SHARE by all SHARES is greatest,", this::learning);
        b.says("of alike ones the least sum,", this::leastSum);
        b.says("of these the first by LAWS", this::firstByLaws);
        b.says("(others keep theirs).", this::othersKeep);
        b.says("PAID: what is greatest is this times 2 to the power of (a price times the sum of WEIGHTS, taken off).",
            this::paid);
        b.says("PULL of a LAW on a SAYING: its ODDS with it less its ODDS without it.", this::pull);
        b.says("WHY: the fewest LAWS without which the ODDS of a SAYING are no more than a half,", this::fewestLaws);
        b.says("or not told (NOUGHT);", this::notTold);
        b.says("of alike ones the least bits.", this::leastBits);
        b.says("OTHERWISE: a SAYING is told otherwise (0 .. 3) for once: the ODDS of another one.", this::otherwise);
        b.says("WORTH of an ACT on a SAYING: a ROW of pairs (what it is worth, if that is so; if not; -99 .. 99):",
            this::worths);
        b.says("the greatest mean of pairs, the first.", this::greatestMean);
        b.says("A LOOK at another SAYING ahead: mean of the greatest means by both that one can see, "
            + "less the greatest mean without.", this::look);
        b.says("WRONG: the SEEN SAYING by which, told the other way, the LIKELIEST WORLD's COST falls most",
            this::wrongFallsMost);
        b.says("(by 1 at least;", this::wrongByOne);
        b.says("of no WORLD: greater than any),", this::wrongOfNoWorld);
        b.says("the first of alike ones.", this::wrongFirst);
        b.says("HELD: pairs in a ROW (ODDS in tenths 0 .. 10, so 1 or not 0):", this::heldNumbers);
        b.says("of each tenth how many were so, of how many.", this::heldOfEach);
    }

    // ---- learning

    /** Some laws over A and B of name 0, both SOUGHT: WORLD 3 is the one in which both are so. */
    private static final String[][] LEARNED = {
        {"Ax", "Bx", "!Ax|Bx"}, {"Ax", "!Ax", "Ax"}, {"!Ax|!Bx", "Ax|By", "!Bx"}, {"Bx", "Bx", "Bx"},
        {"Ax|Bx", "!Ax|!Bx", "Cx"}, {"!Ax|By", "Ay|!Bx", "Ax|Bx"},
    };

    private static Consumer<WeightedLaws> withWeights(String[] signs, int code) {
        return w -> {
            Boundary.seek(w, 0, 4);
            Boundary.law(w, 1, signs[0], SOFT, code >> 4 & 3);
            Boundary.law(w, 4, signs[1], SOFT, code >> 2 & 3);
            Boundary.law(w, 6, signs[2], SOFT, code & 3);
        };
    }

    private static int sumOf(int code) {
        return (code >> 4 & 3) + (code >> 2 & 3) + (code & 3);
    }

    /** By trying all WEIGHTS in order: the first that is greater, or as great with a lesser sum. */
    private static int bestOf(String[] signs, int price) {
        int best = 0;
        BigInteger up = BigInteger.ZERO;
        BigInteger low = BigInteger.ONE;
        for (int code = 0; code < 64; code++) {
            WeightedLaws w = Boundary.of(withWeights(signs, code));
            w.both(0, 4);
            BigInteger upper = BigInteger.valueOf(w.upper());
            BigInteger lower = BigInteger.valueOf(w.lower()).shiftLeft(price * sumOf(code));
            int order = upper.multiply(low).compareTo(up.multiply(lower));
            if (code == 0 || order > 0 || order == 0 && sumOf(code) < sumOf(best)) {
                best = code;
                up = upper;
                low = lower;
            }
        }
        return best;
    }

    private void learnedAs(String[] signs, int price) {
        WeightedLaws w = Boundary.of(withWeights(signs, 63));
        int best = bestOf(signs, price);
        WeightedLaws due = Boundary.of(withWeights(signs, best));
        due.both(0, 4);
        int figures = 100 * (best >> 4 & 3) + 10 * (best >> 2 & 3) + (best & 3);
        b.told("learn by " + String.join(" ", signs) + " at " + price, w, w.learn(3, 2 | 16 | 64, price), figures,
            due.upper(), due.lower());
    }

    private void learning() {
        for (String[] signs : LEARNED) {
            learnedAs(signs, 0);
        }
        WeightedLaws w = Boundary.of(v -> {
            Boundary.seek(v, 0);
            Boundary.law(v, 0, "Ax", SOFT, 9);
        });
        b.told("3 at most, though 9 were greater", w, w.learn(1, 1, 0), 3, 8, 9);
        b.is("four LAWS are too many", w.learn(1, 15, 0), BAD);
        WeightedLaws last = Boundary.of(v -> {
            Boundary.seekTen(v);
            Boundary.law(v, 0, "Ax", SOFT, 0);
        });
        b.told("the last of 1024 WORLDS", last, last.learn(1023, 1, 0), 3, 4, 729);
    }

    private void leastSum() {
        WeightedLaws w = Boundary.of(v -> {
            Boundary.seek(v, 0);
            Boundary.law(v, 0, "Ax", SOFT, 9);
            Boundary.law(v, 1, "Ax", SOFT, 9);
            Boundary.law(v, 2, "Ax", SOFT, 2);
            Boundary.law(v, 3, "Ax", SOFT, 7);
        });
        b.told("from above by 21 on all are alike", w, w.learn(1, 8, 0), 1, 1, 1);
        w.weight(2, 3);
        b.told("above by 21 without it", w, w.learn(1, 8, 0), 0, 1, 1);
        w.weight(2, 1);
        b.told("above by 19 without it", w, w.learn(1, 8, 0), 2, 1, 1);
        WeightedLaws twice = Boundary.of(v -> {
            v.names(2);
            Boundary.seek(v, 0);
            Boundary.law(v, 0, "Ax|Cy", SOFT, 9);
            Boundary.law(v, 1, "Ax", SOFT, 9);
            Boundary.law(v, 2, "Ax", SOFT, 9);
            Boundary.law(v, 3, "Ax", SOFT, 9);
            Boundary.law(v, 4, "Ax", SOFT, 1);
        });
        // Above by 19 without both: 2 of the second LAW tell as much as 1 of the first, which has two CASES of A.
        b.told("a lesser sum that comes later", twice, twice.learn(1, 1 | 2, 0), 10, 1, 1);
        WeightedLaws none = Boundary.of(v -> Boundary.law(v, 0, "Ax", SOFT, 9));
        b.told("of one WORLD all are alike", none, none.learn(0, 1, 0), 0, 1, 1);
    }

    private void firstByLaws() {
        WeightedLaws w = Boundary.of(v -> {
            Boundary.seek(v, 0);
            Boundary.law(v, 0, "Ax", SOFT, 9);
            Boundary.law(v, 1, "Ax", SOFT, 9);
            Boundary.law(v, 2, "Ax", SOFT, 2);
            Boundary.law(v, 3, "Ax", SOFT, 7);
            Boundary.law(v, 5, "Ax", SOFT, 7);
            Boundary.law(v, 7, "Ax", SOFT, 7);
        });
        b.told("a sum of 1 of three LAWS", w, w.learn(1, 8 | 32 | 128, 0), 1, 1, 1);
        b.is("the first LAW's", w.mark(3, SOFT), 0);
        b.is("the last LAW's", w.mark(7, SOFT), 1);
        w.weight(7, 0);
        w.weight(2, 0);
        b.told("a sum of 3 of two LAWS", w, w.learn(1, 8 | 32, 0), 3, 1, 1);
        w.weight(1, 8);
        b.told("a sum of 4 of two LAWS", w, w.learn(1, 8 | 32, 0), 13, 1, 1);
    }

    private void othersKeep() {
        WeightedLaws w = Boundary.of(withWeights(LEARNED[0], 57));
        Boundary.law(w, 0, "Cx", SOFT, 9);
        w.learn(3, 16, 0);
        b.is("LAW 0", w.mark(0, SOFT), 9);
        b.is("LAW 1", w.mark(1, SOFT), 3);
        b.is("LAW 6", w.mark(6, SOFT), 1);
        b.is("the one that is told", w.mark(4, SOFT), 3);
    }

    private void paid() {
        for (String[] signs : LEARNED) {
            learnedAs(signs, 1);
            learnedAs(signs, 2);
        }
        // By WEIGHTS 0 to 3: 1 by 8, 8 by 27, 64 by 125, 512 by 729; paid by 1: 1 by 8, 4 by 27, 16 by 125, 64 by 729.
        int[] due = {3, 1, 0};
        long[][] parts = {{512, 729}, {8, 27}, {1, 8}};
        for (int price = 0; price <= 2; price++) {
            WeightedLaws w = Boundary.of(v -> {
                Boundary.seek(v, 0, 1, 2);
                Boundary.law(v, 0, "Ax", SOFT, 9);
            });
            b.told("three names at " + price, w, w.learn(7, 1, price), due[price], parts[price][0], parts[price][1]);
        }
    }

    // ---- pull, why, otherwise

    private static void someLaws(WeightedLaws w) {
        Boundary.seek(w, 0, 1, 4);
        w.tell(5, 1);
        Boundary.law(w, 0, "!Ax|Bx", SOFT, 3);
        Boundary.law(w, 1, "Ax", SOFT, 1);
        Boundary.law(w, 3, "#2Ax", COUNT, 2);
        Boundary.law(w, 6, "1Ax", ONCE, 0);
        Boundary.law(w, 7, "Ax|Bx", NOTE, 0);
    }

    private void pull() {
        for (int k : new int[] {0, 1, 3, 6, 7}) {
            for (int s : new int[] {0, 1, 4, 5, 8}) {
                WeightedLaws w = Boundary.of(LearnTermBoundaries::someLaws);
                w.odds(s);
                long up = w.upper();
                long low = w.lower();
                WeightedLaws without = Boundary.of(LearnTermBoundaries::someLaws);
                without.drop(k);
                without.odds(s);
                long upper = up * without.lower() - without.upper() * low;
                long lower = low * without.lower();
                b.is("pull(" + k + ", " + s + ")", w.pull(k, s), 1);
                b.is("its fraction", upper * w.lower() - w.upper() * lower, 0);
                b.is("the LAW is there still", w.told(k, 0), 1);
            }
        }
    }

    private void fewestLaws() {
        WeightedLaws w = Boundary.of(v -> {
            Boundary.seek(v, 0);
            Boundary.law(v, 0, "Ax", SOFT, 1);
            Boundary.law(v, 1, "Ax", SOFT, 1);
            Boundary.law(v, 2, "Ax", SOFT, 2);
            Boundary.law(v, 3, "!Ax", SOFT, 2);
        });
        b.is("one of 2, though two of 1 have lesser bits", w.why(0), 4);
        w.weight(3, 3);
        b.is("one is enough: just a half is left", w.why(0), 1);
        w.weight(3, 4);
        b.is("just a half now", w.why(0), 0);
        w.weight(3, 1);
        b.is("two at least", w.why(0), 5);
        w.weight(3, 0);
        b.is("three", w.why(0), 7);
    }

    private void notTold() {
        WeightedLaws w = Boundary.of(v -> {
            Boundary.seek(v, 0);
            Boundary.law(v, 0, "1Ax", ONCE, 0);
            Boundary.law(v, 1, "!Bx", HARD, 0);
        });
        // A LAW less bars no WORLD more: where ODDS are told with all LAWS, they are told without some.
        b.is("HARD ones", w.why(0), 1);
        w.tell(0, 1);
        b.is("SEEN so", w.why(0), NONE);
        b.found(Boundary.NOUGHT, "not told with all LAWS", v -> {
            v.tell(0, 1);
            Boundary.law(v, 0, "!Ax", HARD, 0);
        }, v -> v.why(0));
    }

    private void leastBits() {
        WeightedLaws w = Boundary.of(v -> {
            Boundary.seek(v, 0);
            Boundary.law(v, 1, "!Ax", SOFT, 2);
            Boundary.law(v, 2, "Ax", SOFT, 1);
            Boundary.law(v, 5, "Ax", SOFT, 1);
            Boundary.law(v, 7, "Ax", SOFT, 1);
        });
        b.is("each is enough", w.why(0), 4);
        w.weight(1, 1);
        b.is("each two are enough", w.why(0), 4 | 32);
        w.weight(2, 0);
        b.is("those that matter", w.why(0), 32);
    }

    private void otherwise() {
        for (int s : new int[] {0, 1, 2, 4, 5, 22}) {
            for (int how = 0; how <= 3; how++) {
                for (int other : new int[] {0, 1, 4, 5, 22, 27}) {
                    otherwiseAsTold(s, how, other);
                }
            }
        }
    }

    private void otherwiseAsTold(int saying, int how, int other) {
        WeightedLaws told = Boundary.of(LearnTermBoundaries::someLaws);
        told.tell(saying, how);
        int want = told.odds(other);
        String call = "otherwise(" + saying + ", " + how + ", " + other + ")";
        if (want != 1) {
            b.found(told.finding(), call, LearnTermBoundaries::someLaws, w -> w.otherwise(saying, how, other));
            return;
        }
        WeightedLaws w = Boundary.of(LearnTermBoundaries::someLaws);
        b.fraction(call, w, w.otherwise(saying, how, other), told.upper(), told.lower());
        b.is(call + " is for once", Boundary.sightOf(w), Boundary.sightOf(Boundary.of(LearnTermBoundaries::someLaws)));
    }

    // ---- worths

    private static Consumer<WeightedLaws> halfAndRow(int... ints) {
        return w -> {
            Boundary.seek(w, 0, 4);
            Boundary.fill(w, 0, ints);
        };
    }

    private void actIs(String when, int want, long upper, long lower, int... ints) {
        WeightedLaws w = Boundary.of(halfAndRow(ints));
        b.told(when, w, w.act(0, 0), want, upper, lower);
    }

    private void worths() {
        actIs("99 and -99", 0, 0, 1, 99, -99);
        actIs("-99 and -98", 0, -197, 2, -99, -98);
        WeightedLaws so = Boundary.of(w -> {
            w.tell(0, 1);
            Boundary.fill(w, 0, 99, -99);
        });
        b.told("what is so", so, so.act(0, 0), 0, 99, 1);
        b.told("what is not so", so, so.act(4, 0), 0, -99, 1);
        for (int worth : new int[] {100, -100}) {
            b.found(UNLIKE, worth + ", if so", halfAndRow(worth, 0), w -> w.act(0, 0));
            b.found(UNLIKE, worth + ", if not", halfAndRow(0, worth), w -> w.act(0, 0));
        }
    }

    private void greatestMean() {
        actIs("the first of two alike", 0, 5, 1, 4, 6, 6, 4);
        actIs("the greater one behind", 1, 11, 2, 4, 6, 6, 5);
        actIs("alike behind a lesser one", 1, 0, 1, -1, 0, 0, 0, 1, -1);
        actIs("all below 0", 1, -3, 1, -4, -4, -3, -3);
    }

    private void look() {
        WeightedLaws w = Boundary.of(halfAndRow(99, -99, -99, 99, 1, 1));
        b.fraction("at itself: all is known", w, w.look(0, 0, 0), 98, 1);
        b.fraction("at what tells nothing", w, w.look(0, 0, 4), 0, 1);
        b.fraction("at what is never so", w, w.look(0, 0, 8), 0, 1);
        w.tell(8, 1);
        b.fraction("at what is always so", w, w.look(0, 0, 8), 0, 1);
        Boundary.law(w, 0, "!Ax|Bx", HARD, 0);
        // Neither, B alone, both: B not so tells that A is not (99 of 1), B so tells nothing (1 of 2); without 33 of 3.
        b.fraction("at what tells something", w, w.look(0, 0, 4), 99 + 2 - 99, 3);
    }

    // ---- wrong, held

    private static WeightedLaws seen(int... tellings) {
        return Boundary.of(w -> {
            for (int i = 0; i < tellings.length; i += 2) {
                w.tell(tellings[i], tellings[i + 1]);
            }
        });
    }

    private void wrongFallsMost() {
        WeightedLaws w = seen(0, 1, 5, 2, 8, 3);
        Boundary.law(w, 0, "!Ax", SOFT, 2);
        Boundary.law(w, 1, "Bx", SOFT, 3);
        b.asked("SEEN not so, told so", w, w.wrong(), 5, 3);
        w.weight(0, 4);
        b.asked("SEEN so, told not so", w, w.wrong(), 0, 4);
        w.tell(0, 3);
        b.asked("SOUGHT is not SEEN", w, w.wrong(), 5, 3);
        // The LIKELIEST WORLD may be another one, told the other way.
        WeightedLaws other = seen(0, 1, 4, 3);
        Boundary.law(other, 0, "!Ax|Bx", SOFT, 5);
        Boundary.law(other, 1, "!Bx", SOFT, 2);
        b.asked("the least COST of all WORLDS falls", other, other.wrong(), 0, 2);
    }

    private void wrongByOne() {
        WeightedLaws w = seen(0, 1);
        Boundary.law(w, 0, "!Ax", SOFT, 1);
        b.asked("by 1", w, w.wrong(), 0, 1);
        w.weight(0, 0);
        b.is("by 0", w.wrong(), NONE);
    }

    private void wrongOfNoWorld() {
        WeightedLaws w = seen(4, 1, 0, 1, 1, 1);
        Boundary.law(w, 0, "1Ax", ONCE, 0);
        Boundary.law(w, 1, "!Bx", SOFT, 9);
        b.asked("those by which there is a WORLD", w, w.wrong(), 0, 1000);
        w.tell(1, 0);
        b.asked("there is a WORLD", w, w.wrong(), 4, 9);
        WeightedLaws dear = Boundary.of(v -> {
            v.names(4);
            v.tell(0, 2);
            for (int k = 0; k < 7; k++) {
                Boundary.law(v, k, "Bx|Cy", SOFT, 9);
            }
            Boundary.law(v, 7, "1Ax", ONCE, 0);
        });
        b.asked("to a WORLD that costs 1008", dear, dear.wrong(), 0, 1000);
    }

    private void wrongFirst() {
        WeightedLaws w = seen(27 - 12, 0, 6, 1, 5, 1, 4, 1);
        Boundary.law(w, 0, "!Bx", SOFT, 2);
        b.asked("of three alike", w, w.wrong(), 4, 2);
        w.tell(4, 2);
        b.asked("of two alike", w, w.wrong(), 5, 2);
        WeightedLaws none = seen(2, 1, 1, 1);
        Boundary.law(none, 0, "1Ax", ONCE, 0);
        b.asked("of two alike from no WORLD", none, none.wrong(), 1, 1000);
    }

    private void heldNumbers() {
        for (int tenth = 0; tenth <= 10; tenth++) {
            for (int so = 0; so <= 1; so++) {
                int of = tenth;
                int was = so;
                WeightedLaws w = Boundary.of(v -> Boundary.fill(v, 0, of, was));
                b.asked("held(0, " + tenth + ")", w, w.held(0, tenth), so, 1);
            }
        }
        for (int[] pair : new int[][] {{-1, 0}, {11, 0}, {0, -1}, {0, 2}, {10, 2}}) {
            b.found(UNLIKE, pair[0] + ", " + pair[1], w -> Boundary.fill(w, 0, pair), w -> w.held(0, 0));
        }
    }

    private void heldOfEach() {
        WeightedLaws w = Boundary.of(v -> Boundary.fill(v, 0, 0, 0, 10, 1, 0, 1, 10, 1, 1, 1, 0, 0));
        b.asked("held(0, 0)", w, w.held(0, 0), 1, 3);
        b.asked("held(0, 1)", w, w.held(0, 1), 1, 1);
        b.asked("held(0, 2)", w, w.held(0, 2), 0, 0);
        b.asked("held(0, 10)", w, w.held(0, 10), 2, 2);
    }
}
