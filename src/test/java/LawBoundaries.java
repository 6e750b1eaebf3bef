/** Boundary cases of promises 10 to 18: NAMES, SAYINGS, the signs of TEXTS, LAWS. */
final class LawBoundaries {
    private static final int LOW = Boundary.LOW, HIGH = Boundary.HIGH, NONE = Boundary.NONE;
    private static final int NOTHING = Boundary.NOTHING, UNLIKE = Boundary.UNLIKE;
    private static final int NOTE = Boundary.NOTE, HARD = Boundary.HARD, SOFT = Boundary.SOFT;
    private static final int COUNT = Boundary.COUNT, ONCE = Boundary.ONCE;
    private static final int[] NO_SAYINGS = {-1, 28, LOW, HIGH};
    private static final int[] NO_LAWS = {-1, 8, LOW, HIGH};
    private static final int[] NO_TEXTS = {-1, 4, LOW, HIGH};
    private static final int[] NO_KINDS = {-1, 5, LOW, HIGH};
    private static final int[] NO_WEIGHTS = {-1, 10, LOW, HIGH};

    private final Boundary b;

    LawBoundaries(Boundary boundary) {
        b = boundary;
    }

    void run() {
        b.section("Promise 10: names", this::names);
        b.section("Promise 11: tell", this::tell);
        b.section("Promise 12: how", this::how);
        b.section("Promise 13: fault", this::fault);
        b.section("Promise 14: law", this::law);
        b.section("Promise 15: drop", this::drop);
        b.section("Promise 16: weight", this::weight);
        b.section("Promise 17: told", this::told);
        b.section("Promise 18: mark", this::mark);
    }

    /** How many NAMES there must be at least for a SAYING, by the places that the document gives them. */
    static int namesFor(int saying) {
        if (saying < 12) {
            return saying % 4 + 1;
        }
        return Math.max((saying - 12) / 4, saying % 4) + 1;
    }

    /** A LAW of each KIND at its own number, all of three names. */
    private static void oneOfEach(WeightedLaws w) {
        Boundary.seek(w, 0, 4);
        Boundary.law(w, 0, "!Ax|By", NOTE, 0);
        Boundary.law(w, 1, "!Ax|By|!Cx", HARD, 0);
        Boundary.law(w, 2, "!Ax|Bx", SOFT, 6);
        Boundary.law(w, 3, "#2Ax", COUNT, 5);
        Boundary.law(w, 4, "1!Bx", ONCE, 0);
    }

    private void names() {
        b.says("There are n NAMES (1 .. 4): how many there were.", () -> {
            WeightedLaws w = new WeightedLaws();
            int before = 3;
            for (int n : new int[] {1, 4, 4, 1, 1, 2, 3}) {
                b.is("names(" + n + ")", w.names(n), before);
                b.is("count(0)", w.count(0), n);
                b.is("alike of the last one", w.alike(n - 1, n - 1), 1);
                b.is("alike beyond it", w.alike(n, n), Boundary.BAD);
                before = n;
            }
        });
        b.says("(SAYINGS stay told.)", () -> {
            WeightedLaws w = Boundary.of(v -> {
                v.tell(0, 1);
                v.tell(4, 2);
                v.tell(12, 3);
            });
            for (int n : new int[] {1, 4, 2}) {
                w.names(n);
                b.is("how(0) of " + n, w.how(0), 1);
                b.is("how(4) of " + n, w.how(4), 2);
                b.is("how(12) of " + n, w.how(12), 3);
                b.is("worlds() of " + n, w.worlds(), 2);
            }
        });
        b.says("BAD;", () -> {
            for (int n : new int[] {0, 5, -1, LOW, HIGH}) {
                b.bad("names(" + n + ")", Boundary::nothing, w -> w.names(n));
            }
        });
        b.says("STATE: a SAYING that is not BY DEFAULT is of a name that would not be there.", () -> {
            for (int s = 0; s < 28; s++) {
                for (int how = 1; how <= 3; how++) {
                    namesWith(s, how);
                }
            }
        });
    }

    private void namesWith(int saying, int how) {
        for (int n = 1; n <= 4; n++) {
            int names = n;
            String call = "names(" + n + ") with " + saying + " told " + how;
            if (n < namesFor(saying)) {
                b.state(call, w -> {
                    w.names(4);
                    w.tell(saying, how);
                }, w -> w.names(names));
            } else {
                b.is(call, Boundary.of(w -> {
                    w.names(4);
                    w.tell(saying, how);
                }).names(n), 4);
            }
        }
        WeightedLaws again = Boundary.of(w -> {
            w.names(4);
            w.tell(saying, how);
            w.tell(saying, 0);
        });
        b.is("names(1) with " + saying + " BY DEFAULT again", again.names(1), 4);
    }

    private void tell() {
        b.says("A SAYING is told (0 .. 3): how it was.", () -> {
            for (int s : new int[] {0, 27}) {
                WeightedLaws w = Boundary.of(v -> v.names(4));
                int before = 0;
                for (int how : new int[] {0, 3, 3, 2, 1, 0, 1, 2, 3, 0}) {
                    b.is("tell(" + s + ", " + how + ")", w.tell(s, how), before);
                    b.is("how(" + s + ")", w.how(s), how);
                    before = how;
                }
            }
        });
        b.says("BAD:", () -> {
            for (int s : NO_SAYINGS) {
                b.bad("tell(" + s + ", 0)", w -> w.names(4), w -> w.tell(s, 0));
            }
            for (int how : new int[] {-1, 4, LOW, HIGH}) {
                b.bad("tell(0, " + how + ")", w -> w.tell(0, 1), w -> w.tell(0, how));
            }
        });
        b.says("also of a name that there is not;", () -> {
            for (int n = 1; n <= 4; n++) {
                for (int s = 0; s < 28; s++) {
                    tellOf(n, s);
                }
            }
        });
        b.says("FULL: an eleventh SOUGHT one.", this::tellEleventh);
    }

    private void tellOf(int names, int saying) {
        String call = "tell(" + saying + ", ..) of " + names;
        if (namesFor(saying) <= names) {
            b.is(call, Boundary.of(w -> w.names(names)).tell(saying, 2), 0);
            return;
        }
        for (int how = 0; how <= 3; how++) {
            int telling = how;
            b.bad(call + " as " + how, w -> w.names(names), w -> w.tell(saying, telling));
        }
    }

    private void tellEleventh() {
        b.full("tell(10, 3) of BY DEFAULT", Boundary::seekTen, w -> w.tell(10, 3));
        b.full("tell(10, 3) of SEEN so", w -> {
            Boundary.seekTen(w);
            w.tell(10, 1);
        }, w -> w.tell(10, 3));
        b.full("tell(10, 3) of SEEN not so", w -> {
            Boundary.seekTen(w);
            w.tell(10, 2);
        }, w -> w.tell(10, 3));
        WeightedLaws w = Boundary.of(Boundary::seekTen);
        b.is("ten are not too many", w.count(1), 10);
        b.is("one of the ten once more", w.tell(13, 3), 3);
        b.is("an eleventh that is SEEN", w.tell(10, 1), 0);
        b.is("one less", w.tell(0, 0), 3);
        b.is("another tenth", w.tell(10, 3), 1);
        b.is("there are ten", w.count(1), 10);
        b.is("and WORLDS", w.worlds(), 1024);
    }

    private void how() {
        b.says("How a SAYING is told.", () -> {
            WeightedLaws w = Boundary.of(v -> v.names(4));
            for (int s = 0; s < 28; s++) {
                w.tell(s, s % 3);
            }
            for (int s = 0; s < 28; s++) {
                b.is("how(" + s + ")", w.how(s), s % 3);
            }
            b.is("how(27) of no name", Boundary.of(v -> v.names(1)).how(27), 0);
        });
        b.says("BAD (0 .. 27).", () -> {
            for (int s : NO_SAYINGS) {
                b.bad("how(" + s + ")", Boundary::nothing, w -> w.how(s));
            }
        });
    }

    private void faultIs(String signs, int kind, int want) {
        WeightedLaws w = Boundary.of(v -> Check.write(v, 0, signs));
        b.is("fault of '" + signs + "' for " + kind, w.fault(0, kind), want);
    }

    private void fault() {
        b.says("A FAULT of a TEXT for a KIND of LAW;", () -> {
            for (int kind = NOTE; kind <= ONCE; kind++) {
                faultIs("", kind, 0);
                faultIs(" ".repeat(40), kind, 40);
                faultIs(" ".repeat(39) + "D", kind, 39);
                faultIs("\t", kind, 0);
            }
            faultIs("Ax", COUNT, 0);
            faultIs("Ax", ONCE, 0);
            faultIs("#1Ax", NOTE, 0);
            faultIs("#1Ax", HARD, 0);
            faultIs("1Ax", SOFT, 0);
            b.is("of a byte below 0", Boundary.of(v -> {
                Check.write(v, 0, "Ax");
                v.put(0, 0, 65 + 128);
            }).fault(0, HARD), 0);
            b.is("of a byte cut to A", Boundary.of(v -> {
                Check.write(v, 0, "Ax");
                v.put(0, 0, 65 + 256);
            }).fault(0, HARD), NONE);
        });
        b.says("NONE: there is none.", () -> {
            for (int kind = NOTE; kind <= SOFT; kind++) {
                int k = kind;
                b.none("fault of 'Ax'", w -> Check.write(w, 2, "Ax"), w -> w.fault(2, k));
                faultIs(" ".repeat(38) + "Ax", kind, NONE);
                faultIs("Ax" + " ".repeat(38), kind, NONE);
            }
            b.none("fault of '#4Fxx'", w -> Check.write(w, 2, "#4Fxx"), w -> w.fault(2, COUNT));
            b.none("fault of '1!Cx'", w -> Check.write(w, 2, "1!Cx"), w -> w.fault(2, ONCE));
        });
        b.says("BAD;", () -> {
            for (int t : NO_TEXTS) {
                b.bad("fault(" + t + ", 0)", w -> w.text(0, 2), w -> w.fault(t, 0));
            }
            for (int kind : NO_KINDS) {
                b.bad("fault(0, " + kind + ")", w -> w.text(0, 2), w -> w.fault(0, kind));
            }
        });
        b.says("NOTHING.", () -> {
            for (int kind = NOTE; kind <= ONCE; kind++) {
                int k = kind;
                b.found(NOTHING, "fault(1, " + kind + ")", w -> w.text(0, 2), w -> w.fault(1, k));
            }
        });
    }

    private void law() {
        b.says("A LAW (anew) by a TEXT, of a KIND, with a WEIGHT (0 .. 9; of SOFT, COUNT; else not looked at):",
            this::lawAnew);
        b.says("how many CASES it has.", () -> {
            for (int n = 1; n <= 4; n++) {
                casesAre(n, "Ax|!Fxx", HARD, n);
                casesAre(n, "Fyy|Ay", SOFT, n);
                casesAre(n, "Ax|By", NOTE, n * n);
                casesAre(n, "Fyx", SOFT, n * n);
                casesAre(n, "#4Ax", COUNT, 1);
                casesAre(n, "1Fxx", ONCE, 1);
            }
        });
        b.says("BAD;", () -> {
            for (int k : NO_LAWS) {
                b.bad("law(" + k + ", 3, 1, 0)", LawBoundaries::oneOfEach, w -> w.law(k, 3, HARD, 0));
            }
            for (int t : NO_TEXTS) {
                b.bad("law(2, " + t + ", 1, 0)", LawBoundaries::oneOfEach, w -> w.law(2, t, HARD, 0));
            }
            for (int kind : NO_KINDS) {
                b.bad("law(2, 3, " + kind + ", 0)", LawBoundaries::oneOfEach, w -> w.law(2, 3, kind, 0));
            }
            for (int weight : NO_WEIGHTS) {
                b.bad("SOFT of WEIGHT " + weight, LawBoundaries::textsOfAll, w -> w.law(2, 0, SOFT, weight));
                b.bad("COUNT of WEIGHT " + weight, LawBoundaries::textsOfAll, w -> w.law(3, 1, COUNT, weight));
            }
        });
        b.says("NOTHING;", () -> {
            for (int kind = NOTE; kind <= ONCE; kind++) {
                int of = kind;
                b.found(NOTHING, "of KIND " + kind, LawBoundaries::oneOfEach, w -> w.law(of, 1, of, 1));
            }
        });
        b.says("STATE: a FAULT.", () -> {
            b.state("a TEXT of another KIND", LawBoundaries::oneOfEach, w -> w.law(2, 3, SOFT, 1));
            b.state("an empty TEXT", LawBoundaries::emptyText, w -> w.law(2, 0, HARD, 1));
            b.state("parts ahead of a FAULT", LawBoundaries::faultBehindParts, w -> w.law(2, 0, SOFT, 1));
            b.state("for a missing LAW", LawBoundaries::faultBehindParts, w -> w.law(6, 0, NOTE, 1));
            b.state("an end too early", LawBoundaries::endTooEarly, w -> w.law(3, 0, COUNT, 9));
        });
        b.says("(STATE behind NOTHING.)", () -> {
            b.found(NOTHING, "a missing TEXT has no FAULT", LawBoundaries::emptyText, w -> w.law(2, 1, HARD, 1));
            b.state("the TEXT is there", LawBoundaries::emptyText, w -> w.law(2, 0, HARD, 1));
        });
    }

    private static void textsOfAll(WeightedLaws w) {
        oneOfEach(w);
        Check.write(w, 0, "Cx");
        Check.write(w, 1, "#1Cx");
    }

    private static void emptyText(WeightedLaws w) {
        oneOfEach(w);
        w.text(0, 0);
    }

    private static void faultBehindParts(WeightedLaws w) {
        oneOfEach(w);
        Check.write(w, 0, "Cx|!Cy|Fxy|!Fyx||");
    }

    private static void endTooEarly(WeightedLaws w) {
        oneOfEach(w);
        Check.write(w, 0, "  #4!F");
    }

    private void casesAre(int names, String signs, int kind, int want) {
        WeightedLaws w = Boundary.of(v -> v.names(names));
        b.is("law of '" + signs + "' for " + kind + " of " + names, Boundary.law(w, 7, signs, kind, 9), want);
    }

    private void lawAnew() {
        for (int weight : new int[] {0, 9}) {
            WeightedLaws w = new WeightedLaws();
            b.is("SOFT of WEIGHT " + weight, Boundary.law(w, 0, "Ax", SOFT, weight), 3);
            b.is("its WEIGHT", w.mark(0, SOFT), weight);
            b.is("COUNT of WEIGHT " + weight, Boundary.law(w, 7, "#1Ax", COUNT, weight), 1);
            b.is("its WEIGHT", w.mark(7, SOFT), weight);
        }
        for (int weight : NO_WEIGHTS) {
            WeightedLaws w = new WeightedLaws();
            b.is("a note, " + weight + " is not looked at", Boundary.law(w, 0, "Ax", NOTE, weight), 3);
            b.is("HARD, " + weight + " is not looked at", Boundary.law(w, 1, "Ax", HARD, weight), 3);
            b.is("ONCE, " + weight + " is not looked at", Boundary.law(w, 2, "1Ax", ONCE, weight), 1);
            b.asked("no COST by it", w, w.cost(0), 0, 4);
        }
        WeightedLaws w = Boundary.of(LawBoundaries::oneOfEach);
        b.is("a SOFT one anew as HARD", Boundary.law(w, 2, "!Cx|!Cy", HARD, 3), 9);
        b.is("count(3)", w.count(3), 5);
        b.is("count(4)", w.count(4), 3);
        b.is("how many !", w.mark(2, HARD), 2);
        b.is("its WEIGHT is gone", w.mark(2, SOFT), Boundary.FINDING);
        Check.write(w, 3, "Ax");
        b.is("it stays when its TEXT changes", w.mark(2, HARD), 2);
    }

    private void drop() {
        b.says("A LAW is missing: 1.", () -> {
            for (int k : new int[] {0, 7}) {
                WeightedLaws w = Boundary.of(v -> Boundary.law(v, k, "Ax", HARD, 0));
                b.is("drop(" + k + ")", w.drop(k), 1);
                b.is("count(3)", w.count(3), 0);
                b.is("it bars no more", w.likeliest(), 0);
            }
        });
        b.says("BAD;", () -> {
            for (int k : NO_LAWS) {
                b.bad("drop(" + k + ")", LawBoundaries::oneOfEach, w -> w.drop(k));
            }
        });
        b.says("NOTHING.", () -> {
            b.found(NOTHING, "drop(7) at first", LawBoundaries::oneOfEach, w -> w.drop(7));
            b.found(NOTHING, "drop(1) twice", w -> {
                oneOfEach(w);
                w.drop(1);
            }, w -> w.drop(1));
        });
    }

    private void weight() {
        b.says("WEIGHT of a SOFT LAW (COUNT, too) becomes w (0 .. 9): what it was.", () -> {
            WeightedLaws w = Boundary.of(LawBoundaries::oneOfEach);
            b.is("weight(2, 0)", w.weight(2, 0), 6);
            b.is("weight(2, 9)", w.weight(2, 9), 0);
            b.is("weight(2, 9) again", w.weight(2, 9), 9);
            b.is("weight(3, 9)", w.weight(3, 9), 5);
            b.is("weight(3, 0)", w.weight(3, 0), 9);
            b.is("cost(1): A alone breaks one CASE", w.cost(1), 9);
        });
        b.says("BAD;", () -> {
            for (int k : NO_LAWS) {
                b.bad("weight(" + k + ", 1)", LawBoundaries::oneOfEach, w -> w.weight(k, 1));
            }
            for (int weight : NO_WEIGHTS) {
                b.bad("weight(2, " + weight + ")", LawBoundaries::oneOfEach, w -> w.weight(2, weight));
                b.bad("weight(3, " + weight + ")", LawBoundaries::oneOfEach, w -> w.weight(3, weight));
            }
        });
        b.says("NOTHING;", () -> {
            b.found(NOTHING, "weight(5, 1)", LawBoundaries::oneOfEach, w -> w.weight(5, 1));
            b.found(NOTHING, "weight(2, 1) once dropped", w -> {
                oneOfEach(w);
                w.drop(2);
            }, w -> w.weight(2, 1));
        });
        b.says("UNLIKE.", () -> {
            for (int k : new int[] {NOTE, HARD, ONCE}) {
                b.found(UNLIKE, "weight of KIND " + k, LawBoundaries::oneOfEach, w -> w.weight(k, 1));
            }
        });
    }

    private void told() {
        b.says("Of a LAW: 0 its KIND,", () -> {
            for (int k = NOTE; k <= ONCE; k++) {
                WeightedLaws w = Boundary.of(LawBoundaries::oneOfEach);
                b.asked("told(" + k + ", 0)", w, w.told(k, 0), 1, k);
            }
        });
        b.says("1 how many parts,", () -> {
            WeightedLaws w = Boundary.of(LawBoundaries::oneOfEach);
            int[] parts = {2, 3, 2, 1, 1};
            for (int k = NOTE; k <= ONCE; k++) {
                b.asked("told(" + k + ", 1)", w, w.told(k, 1), 1, parts[k]);
            }
            Boundary.law(w, 7, "Ax|Ax|Ax|Ax|Ax|Ax", SOFT, 0);
            b.asked("the most parts", w, w.told(7, 1), 1, 6);
        });
        b.says("2 CASES with the NAMES as they are, told by asked(): 1.", () -> {
            WeightedLaws w = Boundary.of(LawBoundaries::oneOfEach);
            for (int n : new int[] {1, 4, 3, 2}) {
                w.names(n);
                int[] cases = {n * n, n * n, n, 1, 1};
                for (int k = NOTE; k <= ONCE; k++) {
                    b.asked("told(" + k + ", 2) of " + n, w, w.told(k, 2), 1, cases[k]);
                }
            }
        });
        b.says("BAD;", () -> {
            for (int k : NO_LAWS) {
                b.bad("told(" + k + ", 0)", LawBoundaries::oneOfEach, w -> w.told(k, 0));
            }
            for (int what : new int[] {-1, 3, LOW, HIGH}) {
                b.bad("told(0, " + what + ")", LawBoundaries::oneOfEach, w -> w.told(0, what));
            }
        });
        b.says("NOTHING.", () -> {
            for (int what = 0; what <= 2; what++) {
                int of = what;
                b.found(NOTHING, "told(7, " + what + ")", LawBoundaries::oneOfEach, w -> w.told(7, of));
            }
        });
    }

    private void mark() {
        b.says("What a LAW that IS of a KIND tells: a HARD one (ONCE, too) how many parts have a !,", () -> {
            marksAre("Ax", HARD, HARD, 0);
            marksAre("!Ax|!Ax|!Ax|!Ax|!Ax|!Ax", HARD, HARD, 6);
            marksAre("Ax|!Ax", HARD, HARD, 1);
            marksAre("1Ax", ONCE, HARD, 0);
            marksAre("1!Ax", ONCE, HARD, 1);
        });
        b.says("a SOFT one (COUNT, too) its WEIGHT,", () -> {
            marksAre("!Ax", SOFT, SOFT, 8);
            marksAre("#2Ax", COUNT, SOFT, 8);
        });
        b.says("a COUNT one how many names,", () -> {
            for (int n = 1; n <= 4; n++) {
                marksAre("#" + n + "Ax", COUNT, COUNT, n);
            }
        });
        b.says("a ONCE one the SAYING of name 0.", () -> {
            marksAre("1Ax", ONCE, ONCE, 0);
            marksAre("1Bx", ONCE, ONCE, 4);
            marksAre("1!Cx", ONCE, ONCE, 8);
            marksAre("1Fxx", ONCE, ONCE, 12);
        });
        b.says("BAD:", () -> {
            for (int k : NO_LAWS) {
                b.bad("mark(" + k + ", 1)", LawBoundaries::oneOfEach, w -> w.mark(k, HARD));
            }
            for (int kind : NO_KINDS) {
                b.bad("mark(1, " + kind + ")", LawBoundaries::oneOfEach, w -> w.mark(1, kind));
            }
        });
        b.says("also KIND 0;", () -> {
            for (int k = NOTE; k <= ONCE; k++) {
                int law = k;
                b.bad("mark(" + k + ", 0)", LawBoundaries::oneOfEach, w -> w.mark(law, 0));
            }
        });
        b.says("NOTHING;", () -> {
            for (int kind = HARD; kind <= ONCE; kind++) {
                int of = kind;
                b.found(NOTHING, "mark(7, " + kind + ")", LawBoundaries::oneOfEach, w -> w.mark(7, of));
            }
        });
        b.says("UNLIKE.", this::markUnlike);
    }

    private void marksAre(String signs, int of, int kind, int want) {
        WeightedLaws w = Boundary.of(v -> Boundary.law(v, 5, signs, of, 8));
        b.is("mark of '" + signs + "' by " + kind, w.mark(5, kind), want);
    }

    private void markUnlike() {
        // LAW k is of KIND k: the KINDS that it is not of.
        int[][] unlike = {{HARD, SOFT, COUNT, ONCE}, {SOFT, COUNT, ONCE}, {HARD, COUNT, ONCE}, {HARD, ONCE},
            {SOFT, COUNT}};
        for (int k = NOTE; k <= ONCE; k++) {
            for (int kind : unlike[k]) {
                int law = k;
                b.found(UNLIKE, "mark(" + k + ", " + kind + ")", LawBoundaries::oneOfEach, w -> w.mark(law, kind));
            }
        }
    }
}
