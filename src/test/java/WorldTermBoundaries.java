import java.util.function.Consumer;

/** Boundary cases of the document's Terms: WORLDS, COST, SHARES, names that are ALIKE, WORLDS that are DRAWN. */
final class WorldTermBoundaries {
    private static final int NONE = Boundary.NONE, NOUGHT = Boundary.NOUGHT;
    private static final int NOTE = Boundary.NOTE, HARD = Boundary.HARD, SOFT = Boundary.SOFT;
    private static final int COUNT = Boundary.COUNT, ONCE = Boundary.ONCE;
    private static final int HIGHEST = (1 << 30) - 1;

    private final Boundary b;

    WorldTermBoundaries(Boundary boundary) {
        b = boundary;
    }

    void run() {
        b.says("A WORLD tells each SOUGHT SAYING so or not (bits: the i-th SOUGHT one by number bit i);", this::bits);
        b.says("the others are as SEEN, or not so.", this::others);
        b.says("A part holds, if its SAYING is so (with !: not so).", this::partHolds);
        b.says("A CASE of a LAW tells x and y each a name (a LAW without y, or without x: just the one that it has);",
            this::cases);
        b.says("HARD and SOFT break a CASE in which no part holds.", this::noPartHolds);
        b.says("COUNT breaks one CASE, if fewer names (as x) than told hold its part;", this::countBreaks);
        b.says("ONCE one, if not just one name does.", this::onceBreaks);
        b.says("COST of a WORLD: of SOFT ones (COUNT, too) WEIGHT times the CASES that they break, together.",
            this::cost);
        b.says("It is BARRED, if a HARD one (ONCE, too) breaks a CASE.", this::barred);
        b.says("LIKELIEST is the WORLD with the least COST that is not BARRED, the least of alike ones.",
            this::likeliest);
        b.says("SHARE of a WORLD: 2 to the power of (20 less what its COST is above the LIKELIEST one's);",
            this::shares);
        b.says("nought, if it is above that by more than 20, or it is BARRED.", this::noShare);
        b.says("ODDS of what is asked: SHARES of WORLDS in which it is so by all SHARES.", this::odds);
        b.says("(NOUGHT: all are BARRED.)", this::nought);
        b.says("ALIKE are two names, if each SAYING and the one in which both names change are told alike (0 .. 3).",
            this::alike);
        b.says("DRAWN are WORLDS: l = l times 1103515245 and 12345 (an int that wraps) twice;", this::drawnByWraps);
        b.says("v = (the first one's bits 16 and on, 15 of them) times 32768 and the second one's;", this::drawnByBits);
        b.says("the WORLD at which SHARES added up (by numbers) are first above "
            + "v times all SHARES by 2 to the power of 30, cut.", this::drawnAtLimits);
    }

    // ---- worlds

    private void bits() {
        int[] sought = {0, 1, 2, 3, 4, 5, 6, 7};
        String[] laws = {"!Ax|!Fxx", "!Bx|!Fxx"};
        for (int i = 0; i < sought.length; i++) {
            int name = i % 4;
            String signs = laws[i / 4];
            WeightedLaws w = Boundary.of(v -> {
                v.names(4);
                // The order in which they are told is not the order of the bits; F tells the LAW its one name.
                Boundary.seek(v, 6, 1, 7, 0, 3, 5, 4, 2);
                v.tell(12 + 5 * name, 1);
                Boundary.law(v, 0, signs, SOFT, 1);
            });
            for (int j = 0; j < sought.length; j++) {
                b.is("SAYING " + i + " in WORLD " + (1 << j), w.broken(0, 1 << j), i == j ? 1 : 0);
            }
            b.is("SAYING " + i + " in the last WORLD", w.broken(0, 255), 1);
        }
        WeightedLaws last = Boundary.of(v -> {
            v.names(4);
            Boundary.seek(v, 27, 0);
            Boundary.law(v, 0, "Fxy", SOFT, 1);
        });
        b.is("the last SAYING is the second one", last.likeliest(), 2);
    }

    private void others() {
        WeightedLaws w = Boundary.of(v -> {
            v.tell(0, 1);
            v.tell(1, 2);
            v.tell(4, 3);
            Boundary.law(v, 0, "Ax", SOFT, 1);
            Boundary.law(v, 1, "!Ax", SOFT, 1);
        });
        for (int world = 0; world < 2; world++) {
            b.is("SEEN not so and BY DEFAULT", w.broken(0, world), 2);
            b.is("SEEN so", w.broken(1, world), 1);
        }
    }

    private void partHolds() {
        for (int how = 0; how <= 2; how++) {
            int telling = how;
            WeightedLaws w = Boundary.of(v -> {
                v.names(1);
                v.tell(0, telling);
                Boundary.law(v, 0, "Ax", HARD, 0);
                Boundary.law(v, 1, "!Ax", HARD, 0);
                Boundary.law(v, 2, "Ax|!Ax", HARD, 0);
            });
            b.is("A told " + how, w.broken(0, 0), how == 1 ? 0 : 1);
            b.is("!A told " + how, w.broken(1, 0), how == 1 ? 1 : 0);
            b.is("either told " + how, w.broken(2, 0), 0);
        }
    }

    private void cases() {
        for (int n = 1; n <= 4; n++) {
            int names = n;
            WeightedLaws w = Boundary.of(v -> {
                v.names(names);
                v.tell(0, 1);
                Boundary.law(v, 0, "Bx|By", SOFT, 1);
                Boundary.law(v, 1, "Bx|Fxx", SOFT, 1);
                Boundary.law(v, 2, "By|Fyy", SOFT, 1);
                Boundary.law(v, 3, "Fyx", SOFT, 1);
                // x and y may be one name: then one of these holds.
                Boundary.law(v, 4, "Ax|!Ay", SOFT, 1);
                Boundary.law(v, 5, "Ay", SOFT, 1);
            });
            int[] due = {n * n, n, n, n * n, n - 1, n - 1};
            for (int k = 0; k < due.length; k++) {
                b.is("LAW " + k + " of " + n + " names", w.broken(k, 0), due[k]);
            }
        }
    }

    private void noPartHolds() {
        for (int kind = HARD; kind <= SOFT; kind++) {
            int of = kind;
            WeightedLaws w = Boundary.of(v -> {
                v.names(1);
                v.tell(8, 3);
                Boundary.law(v, 0, "Ax|Bx|Fxx|Fxy|Ax|Cx", of, 1);
                Boundary.law(v, 1, "Cx|Bx|Fxx|Fxy|Ax|Ax", of, 1);
            });
            for (int k = 0; k < 2; k++) {
                b.is("none of six holds", w.broken(k, 0), 1);
                b.is("one of six holds", w.broken(k, 1), 0);
            }
        }
    }

    /** Of n names k are A; a LAW of COUNT or ONCE over A, or over those that are not. */
    private static WeightedLaws namesThatAreA(int n, int k, String signs, int kind) {
        return Boundary.of(v -> {
            v.names(n);
            for (int x = 0; x < k; x++) {
                v.tell(x, 1);
            }
            Boundary.law(v, 0, signs, kind, 1);
        });
    }

    private void countBreaks() {
        for (int n = 1; n <= 4; n++) {
            for (int k = 0; k <= n; k++) {
                for (int least = 1; least <= 4; least++) {
                    String when = k + " of " + n + ", at least " + least;
                    WeightedLaws so = namesThatAreA(n, k, "#" + least + "Ax", COUNT);
                    b.is(when, so.broken(0, 0), k < least ? 1 : 0);
                    WeightedLaws not = namesThatAreA(n, n - k, "#" + least + "!Ax", COUNT);
                    b.is(when + " not", not.broken(0, 0), k < least ? 1 : 0);
                }
            }
        }
        WeightedLaws own = Boundary.of(v -> {
            v.tell(12, 1);
            v.tell(17, 1);
            v.tell(13, 1);
            Boundary.law(v, 0, "#2Fxx", COUNT, 1);
            Boundary.law(v, 1, "#3Fxx", COUNT, 1);
        });
        b.is("two that are F of themselves", own.broken(0, 0), 0);
        b.is("not three", own.broken(1, 0), 1);
    }

    private void onceBreaks() {
        for (int n = 1; n <= 4; n++) {
            for (int k = 0; k <= n; k++) {
                String when = k + " of " + n;
                b.is(when, namesThatAreA(n, k, "1Ax", ONCE).broken(0, 0), k == 1 ? 0 : 1);
                b.is(when + " not", namesThatAreA(n, n - k, "1!Ax", ONCE).broken(0, 0), k == 1 ? 0 : 1);
            }
        }
    }

    // ---- costs and shares

    private void cost() {
        WeightedLaws w = Boundary.of(v -> {
            v.names(4);
            Boundary.law(v, 0, "Ax|By", SOFT, 9);
            Boundary.law(v, 1, "Ax", SOFT, 1);
            Boundary.law(v, 2, "#1Ax", COUNT, 9);
            Boundary.law(v, 3, "Ax", SOFT, 0);
            Boundary.law(v, 4, "Ax", NOTE, 9);
            Boundary.law(v, 5, "Ax", HARD, 9);
            Boundary.law(v, 6, "1Ax", ONCE, 9);
        });
        b.asked("all KINDS", w, w.cost(0), 16 * 9 + 4 + 9, 4 + 1);
        w.drop(0);
        b.asked("one less", w, w.cost(0), 4 + 9, 4 + 1);
        WeightedLaws all = Boundary.of(v -> {
            v.names(4);
            for (int k = 0; k < 8; k++) {
                Boundary.law(v, k, "Ax|By", SOFT, 9);
            }
        });
        b.asked("the greatest", all, all.cost(0), 8 * 16 * 9, 0);
    }

    private void barred() {
        WeightedLaws hard = Boundary.of(v -> {
            v.names(4);
            Boundary.seek(v, 0, 1, 2, 3);
            Boundary.law(v, 7, "Ax", HARD, 0);
        });
        b.is("one CASE is enough: one WORLD is left", hard.near(999), 1);
        b.is("the one in which none is broken", hard.likeliest(), 15);
        WeightedLaws once = Boundary.of(v -> {
            v.names(4);
            Boundary.seek(v, 0, 1, 2, 3);
            Boundary.law(v, 0, "1Ax", ONCE, 0);
        });
        b.is("ONCE, too: four WORLDS are left", once.near(999), 4);
        WeightedLaws soft = Boundary.of(v -> {
            Boundary.law(v, 0, "Ax", SOFT, 9);
            Boundary.law(v, 1, "#4Ax", COUNT, 9);
            Boundary.law(v, 2, "Ax", NOTE, 9);
        });
        b.is("other KINDS bar none", soft.near(999), 1);
    }

    private void likeliest() {
        WeightedLaws w = Boundary.of(v -> Boundary.seek(v, 0, 4));
        b.is("the least of four", w.likeliest(), 0);
        Boundary.law(w, 0, "Bx", SOFT, 1);
        b.is("the least of two", w.likeliest(), 2);
        Boundary.law(w, 1, "1!Bx", ONCE, 0);
        b.is("all are BARRED", w.likeliest(), NONE);
        Boundary.law(w, 1, "1Ax", ONCE, 0);
        b.is("the least COST is BARRED", w.likeliest(), 3);
        Boundary.law(w, 1, "!Bx", HARD, 0);
        b.is("the least that are not BARRED", w.likeliest(), 0);
    }

    /** A (WORLD 1) costs that much more than not A, beside a COST that both have. */
    private static Consumer<WeightedLaws> aIsDearer(int by) {
        return w -> {
            Boundary.seek(w, 0);
            for (int k = 0; k < 4; k++) {
                Boundary.law(w, k, "!Ax", SOFT, Math.max(Math.min(by - 9 * k, 9), 0));
            }
            Boundary.law(w, 7, "Bx", SOFT, 9);
        };
    }

    private void shares() {
        for (int by = 0; by <= 20; by++) {
            WeightedLaws w = Boundary.of(aIsDearer(by));
            b.fraction("above by " + by, w, w.odds(0), 1, (1L << by) + 1);
            b.asked("cost(1) of " + by, w, w.cost(1), 27 + by, 0);
        }
    }

    private void noShare() {
        for (int by = 21; by <= 36; by++) {
            WeightedLaws w = Boundary.of(aIsDearer(by));
            b.fraction("above by " + by, w, w.odds(0), 0, 1);
            b.is("it is a WORLD nonetheless", w.near(by), 2);
        }
        WeightedLaws barred = Boundary.of(v -> {
            Boundary.seek(v, 0);
            Boundary.law(v, 0, "!Ax", HARD, 0);
        });
        b.fraction("BARRED", barred, barred.odds(0), 0, 1);
        WeightedLaws cheap = Boundary.of(v -> {
            Boundary.seek(v, 0);
            Boundary.law(v, 0, "!Ax", HARD, 0);
            Boundary.law(v, 1, "Ax", SOFT, 9);
        });
        b.fraction("BARRED, though it costs less", cheap, cheap.odds(0), 0, 1);
    }

    private void odds() {
        WeightedLaws w = Boundary.of(v -> {
            Boundary.seek(v, 0, 1, 2);
            Boundary.law(v, 0, "!Ax", SOFT, 1);
        });
        // SHARES by how many are A: 8, 4, 2, 1 of 27.
        b.fraction("one", w, w.odds(0), 1, 3);
        b.fraction("two", w, w.both(0, 1), 1, 9);
        b.fraction("one of those with another", w, w.given(2, 1), 1, 3);
        b.fraction("what is always so", w, w.otherwise(4, 1, 4), 1, 1);
        b.fraction("what is never so", w, w.odds(4), 0, 1);
    }

    private void nought() {
        Consumer<WeightedLaws> start = v -> {
            Boundary.seek(v, 0, 4);
            Boundary.law(v, 0, "1Ax", ONCE, 0);
            Boundary.law(v, 1, "1!Ax", ONCE, 0);
        };
        b.found(NOUGHT, "odds(0)", start, w -> w.odds(0));
        b.found(NOUGHT, "both(0, 4)", start, w -> w.both(0, 4));
        b.found(NOUGHT, "given(0, 4)", start, w -> w.given(0, 4));
        b.found(NOUGHT, "otherwise(0, 1, 4)", start, w -> w.otherwise(0, 1, 4));
        WeightedLaws one = Boundary.of(v -> {
            Boundary.seek(v, 0, 4);
            Boundary.law(v, 0, "1Ax", ONCE, 0);
        });
        b.fraction("some are not BARRED", one, one.odds(0), 1, 1);
    }

    // ---- alike

    private static int changed(int saying, int x, int y) {
        if (saying < 12) {
            return saying / 4 * 4 + other(saying % 4, x, y);
        }
        return 12 + 4 * other((saying - 12) / 4, x, y) + other(saying % 4, x, y);
    }

    private static int other(int name, int x, int y) {
        if (name == x) {
            return y;
        }
        return name == y ? x : name;
    }

    private void alike() {
        for (int x = 0; x < 4; x++) {
            for (int y = 0; y < 4; y++) {
                for (int s = 0; s < 28; s++) {
                    alikeBy(x, y, s);
                }
            }
        }
    }

    private void alikeBy(int x, int y, int saying) {
        int mirror = changed(saying, x, y);
        for (int how = 0; how <= 3; how++) {
            for (int otherHow = 0; otherHow <= 3; otherHow++) {
                WeightedLaws w = Boundary.of(v -> v.names(4));
                w.tell(saying, how);
                w.tell(mirror, otherHow);
                boolean same = saying == mirror || how == otherHow;
                String call = "alike(" + x + ", " + y + ") with " + saying + " " + how + ", " + mirror + " " + otherHow;
                b.is(call, w.alike(x, y), same ? 1 : 0);
            }
        }
    }

    // ---- drawn

    /** A number from which the first WORLD is DRAWN by v. */
    private int startFor(int v) {
        // The steps are undone by what 1103515245 turns to 1 by multiplying.
        int undo = 1;
        for (int i = 0; i < 5; i++) {
            undo *= 2 - 1103515245 * undo;
        }
        for (int low = 0; low < 1 << 17; low++) {
            int first = (v >>> 15) << 16 | low & 0xffff | (low >> 16) << 31;
            int second = first * 1103515245 + 12345;
            if ((second >>> 16 & 32767) == (v & 32767)) {
                return (first - 12345) * undo;
            }
        }
        b.is("a start for " + v, 0, 1);
        return 0;
    }

    private void drawnIs(String when, Consumer<WeightedLaws> start, int v, int want) {
        WeightedLaws w = Boundary.of(start);
        w.draw(startFor(v), 1, 0);
        b.is(when + " by " + v, w.asked(), want);
    }

    private void drawnByWraps() {
        WeightedLaws w = Boundary.of(Boundary::seekTen);
        long[] alike = new long[1024];
        java.util.Arrays.fill(alike, 1L << 20);
        for (int l : new int[] {0, 1, -1, 2, -2, Boundary.LOW, Boundary.HIGH, 12345, -12345, 1 << 30, 1103515245}) {
            for (int n = 1; n <= 3; n++) {
                w.draw(l, n, 0);
                b.is("draw(" + l + ", " + n + ", 0)", w.asked(), WorldBoundaries.drawn(l, n, alike));
            }
        }
    }

    private void drawnByBits() {
        int unit = 1 << 20;
        for (int v : new int[] {0, unit - 1, unit, (1 << 29) - 1, 1 << 29, HIGHEST - unit, HIGHEST, 0x2aaaaaaa}) {
            // 1024 SHARES that are alike are 2 to the power of 30 together: v is the limit itself.
            drawnIs("1024 alike", Boundary::seekTen, v, v >> 20);
        }
        // Two thirds of 2 to the power of 30 are 715827882 and two thirds: the last bit of v tells.
        Consumer<WeightedLaws> three = w -> {
            Boundary.seek(w, 0, 4);
            Boundary.law(w, 0, "!Ax|!Bx", HARD, 0);
        };
        drawnIs("three alike, just not reached", three, 715827882, 1);
        drawnIs("three alike, reached by the last bit", three, 715827883, 2);
    }

    private void drawnAtLimits() {
        Consumer<WeightedLaws> two = w -> Boundary.seek(w, 0);
        drawnIs("the first of two, nought", two, 0, 0);
        drawnIs("the first of two, just not reached", two, (1 << 29) - 1, 0);
        drawnIs("the second of two, just reached", two, 1 << 29, 1);
        drawnIs("the second of two, the greatest", two, HIGHEST, 1);
        // WORLD 0 has a SHARE of 1 of 2 to the power of 20 and 1.
        Consumer<WeightedLaws> dear = w -> {
            Boundary.seek(w, 0);
            Boundary.law(w, 0, "Ax", SOFT, 9);
            Boundary.law(w, 1, "Ax", SOFT, 9);
            Boundary.law(w, 2, "Ax", SOFT, 2);
        };
        drawnIs("the least SHARE, nought", dear, 0, 0);
        drawnIs("the least SHARE, cut", dear, 1023, 0);
        drawnIs("the least SHARE, reached", dear, 1024, 1);
        Consumer<WeightedLaws> barred = w -> {
            Boundary.seek(w, 0);
            Boundary.law(w, 0, "1Ax", ONCE, 0);
        };
        drawnIs("nought is not above nought", barred, 0, 1);
        drawnIs("one WORLD, the greatest", Boundary::nothing, HIGHEST, 0);
        drawnIs("one WORLD, nought", Boundary::nothing, 0, 0);
        Consumer<WeightedLaws> last = w -> {
            Boundary.seek(w, 0);
            Boundary.law(w, 0, "1!Bx", ONCE, 0);
            w.tell(4, 1);
            w.tell(5, 1);
            Boundary.law(w, 1, "!Ax", HARD, 0);
        };
        drawnIs("the last is BARRED, the greatest", last, HIGHEST, 0);
    }
}
