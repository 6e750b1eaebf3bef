/** Each promise of the document by itself: ordinary inputs, the edges that it names, wrong inputs. */
public final class PromiseTest {
    private static final int BAD = -1, FULL = -2, FINDING = -3, STATE = -4, NONE = -9;
    private static final int NOTHING = 1, BEYOND = 2, UNLIKE = 3, NOUGHT = 4, SIZE = 5;
    private static final int NOTE = 0, HARD = 1, SOFT = 2, COUNT = 3, ONCE = 4;
    private static final int LOW = Integer.MIN_VALUE, HIGH = Integer.MAX_VALUE;

    private static final Check CHECK = new Check();

    public static void main(String[] args) {
        constants();
        promise1New();
        promise2Row();
        promise3Lay();
        promise4At();
        promise5Tear();
        promise6Copy();
        promise7Mean();
        promise8Text();
        promise9Put();
        promise10Names();
        promise11Tell();
        promise12How();
        promise13Fault();
        promise14Law();
        promise15Drop();
        promise16Weight();
        promise17Told();
        promise18Mark();
        promise19Worlds();
        promise20Cost();
        promise21Broken();
        promise22Likeliest();
        promise23Near();
        promise24Odds();
        promise25Both();
        promise26Given();
        promise27Alike();
        promise28Draw();
        promise29Learn();
        promise29LearnRefused();
        promise30Pull();
        promise31Why();
        promise32Otherwise();
        promise33Act();
        promise34Look();
        promise35Wrong();
        promise36Held();
        promise37Asked();
        promise38And39Fraction();
        promise40Count();
        promise41And42Findings();
        promise43Digest();
        refusedChangesNothing();
        CHECK.end();
    }

    private static void due(String call, long got, long want) {
        CHECK.due(call, got, want);
    }

    private static void constants() {
        due("BAD", WeightedLaws.BAD, BAD);
        due("FULL", WeightedLaws.FULL, FULL);
        due("FINDING", WeightedLaws.FINDING, FINDING);
        due("STATE", WeightedLaws.STATE, STATE);
        due("NONE", WeightedLaws.NONE, NONE);
    }

    private static WeightedLaws rowOf(int r, int... ints) {
        return fill(new WeightedLaws(), r, ints);
    }

    private static WeightedLaws fill(WeightedLaws w, int r, int... ints) {
        w.row(r, ints.length);
        for (int i = 0; i < ints.length; i++) {
            w.lay(r, i, ints[i]);
        }
        return w;
    }

    private static int at(WeightedLaws w, int r, int i) {
        due("at(" + r + ", " + i + ")", w.at(r, i), 1);
        return w.asked();
    }

    private static void rowIs(String when, WeightedLaws w, int r, int... ints) {
        for (int i = 0; i < ints.length; i++) {
            due(when + ": place " + i, at(w, r, i), ints[i]);
        }
        due(when + ": no more places", w.at(r, ints.length), FINDING);
    }

    // ---- 1 rows, texts, sayings, laws

    private static void promise1New() {
        WeightedLaws w = new WeightedLaws();
        int[] counts = {3, 0, 0, 0, 0, 0, 0};
        for (int what = 0; what < 7; what++) {
            due("new: count(" + what + ")", w.count(what), counts[what]);
        }
        for (int s = 0; s < 28; s++) {
            due("new: how(" + s + ")", w.how(s), 0);
        }
        for (int f = 1; f <= 5; f++) {
            due("new: findings(" + f + ")", w.findings(f), 0);
        }
        due("new: asked()", w.asked(), 0);
        due("new: upper()", w.upper(), 0);
        due("new: lower()", w.lower(), 1);
        due("new: finding()", w.finding(), 0);
        due("new: worlds()", w.worlds(), 1);
        for (int r = 0; r < 6; r++) {
            CHECK.finding("new: tear(" + r + ")", w, w.tear(r), NOTHING);
        }
        for (int t = 0; t < 4; t++) {
            CHECK.finding("new: put(" + t + ", 0, 0)", w, w.put(t, 0, 0), NOTHING);
        }
        for (int k = 0; k < 8; k++) {
            CHECK.finding("new: drop(" + k + ")", w, w.drop(k), NOTHING);
        }
    }

    private static void promise2Row() {
        WeightedLaws w = new WeightedLaws();
        due("row(0, 0)", w.row(0, 0), 0);
        due("row(5, 40)", w.row(5, 40), 40);
        due("at(5, 39)", at(w, 5, 39), 0);
        due("row(5, 41)", w.row(5, 41), BAD);
        due("row(5, HIGH)", w.row(5, HIGH), BAD);
        due("row(6, 1)", w.row(6, 1), BAD);
        due("row(-1, 1)", w.row(-1, 1), BAD);
        due("row(-1, -1): BAD comes first", w.row(-1, -1), BAD);
        CHECK.finding("row(5, -1)", w, w.row(5, -1), SIZE);
        CHECK.finding("row(5, LOW)", w, w.row(5, LOW), SIZE);
        due("refused rows leave the ROW", at(w, 5, 39), 0);
        w.lay(5, 1, 7);
        due("row(5, 2) anew", w.row(5, 2), 2);
        rowIs("row anew", w, 5, 0, 0);
        w.row(5, 3);
        rowIs("row grown", w, 5, 0, 0, 0);
        due("two ROWS", w.count(5), 2);
    }

    private static void promise3Lay() {
        WeightedLaws w = rowOf(2, 4, 5);
        CHECK.asked("lay(2, 0, HIGH)", w, w.lay(2, 0, HIGH), 1, 4);
        CHECK.asked("lay(2, 0, LOW)", w, w.lay(2, 0, LOW), 1, HIGH);
        rowIs("lay", w, 2, LOW, 5);
        due("lay(6, 0, 1)", w.lay(6, 0, 1), BAD);
        due("lay(-1, 0, 1)", w.lay(-1, 0, 1), BAD);
        CHECK.finding("lay(1, 0, 1)", w, w.lay(1, 0, 1), NOTHING);
        CHECK.finding("lay(2, 2, 1)", w, w.lay(2, 2, 1), BEYOND);
        CHECK.finding("lay(2, -1, 1)", w, w.lay(2, -1, 1), BEYOND);
        CHECK.finding("lay(2, HIGH, 1)", w, w.lay(2, HIGH, 1), BEYOND);
        CHECK.finding("lay(2, LOW, 1)", w, w.lay(2, LOW, 1), BEYOND);
    }

    private static void promise4At() {
        WeightedLaws w = rowOf(0, -3, 8);
        CHECK.asked("at(0, 0)", w, w.at(0, 0), 1, -3);
        CHECK.asked("at(0, 1)", w, w.at(0, 1), 1, 8);
        due("at(6, 0)", w.at(6, 0), BAD);
        due("at(-1, 0)", w.at(-1, 0), BAD);
        CHECK.finding("at(1, 0)", w, w.at(1, 0), NOTHING);
        CHECK.finding("at(1, -1): NOTHING comes first", w, w.at(1, -1), NOTHING);
        CHECK.finding("at(0, 2)", w, w.at(0, 2), BEYOND);
        CHECK.finding("at(0, -1)", w, w.at(0, -1), BEYOND);
        w.row(3, 0);
        CHECK.finding("at(3, 0) of an empty ROW", w, w.at(3, 0), BEYOND);
    }

    private static void promise5Tear() {
        WeightedLaws w = rowOf(4, 1);
        due("tear(4)", w.tear(4), 1);
        due("no ROWS", w.count(5), 0);
        CHECK.finding("tear(4) again", w, w.tear(4), NOTHING);
        due("tear(6)", w.tear(6), BAD);
        due("tear(-1)", w.tear(-1), BAD);
        w.row(4, 1);
        rowIs("a ROW after tear", w, 4, 0);
    }

    private static void promise6Copy() {
        WeightedLaws w = rowOf(0, 1, 2, 3, 4);
        due("copy up in itself", w.copy(0, 0, 0, 1, 3), 1);
        rowIs("copy up", w, 0, 1, 1, 2, 3);
        fill(w, 0, 1, 2, 3, 4);
        due("copy down in itself", w.copy(0, 1, 0, 0, 3), 1);
        rowIs("copy down", w, 0, 2, 3, 4, 4);
        fill(w, 5, 9, 9);
        due("copy to another", w.copy(0, 2, 5, 0, 2), 1);
        rowIs("copy to another", w, 5, 4, 4);
        rowIs("copy leaves its own", w, 0, 2, 3, 4, 4);
        due("copy of none at the end", w.copy(0, 4, 5, 2, 0), 1);
        due("copy(6, ..)", w.copy(6, 0, 0, 0, 1), BAD);
        due("copy(.. -1 ..)", w.copy(0, 0, -1, 0, 1), BAD);
        due("copy: BAD ahead of SIZE", w.copy(0, 0, 6, 0, -1), BAD);
        CHECK.finding("copy: n below 0 of a missing ROW", w, w.copy(3, 0, 0, 0, -1), SIZE);
        CHECK.finding("copy: from a missing ROW", w, w.copy(3, 9, 0, 0, 1), NOTHING);
        CHECK.finding("copy: to a missing ROW", w, w.copy(0, 0, 3, 0, 9), NOTHING);
        CHECK.finding("copy: too many from", w, w.copy(0, 3, 0, 0, 2), BEYOND);
        CHECK.finding("copy: too many to", w, w.copy(0, 0, 5, 1, 2), BEYOND);
        CHECK.finding("copy: from below 0", w, w.copy(0, -1, 0, 0, 1), BEYOND);
        CHECK.finding("copy: to below 0", w, w.copy(0, 0, 0, -1, 1), BEYOND);
        CHECK.finding("copy: none, from beyond", w, w.copy(0, 5, 0, 0, 0), BEYOND);
        CHECK.finding("copy: numbers that would wrap", w, w.copy(0, HIGH, 0, HIGH, HIGH), BEYOND);
        CHECK.finding("copy: n far too many", w, w.copy(0, 1, 0, 1, HIGH), BEYOND);
        rowIs("refused copies", w, 0, 2, 3, 4, 4);
    }

    private static void promise7Mean() {
        WeightedLaws w = rowOf(1, 3, 4);
        CHECK.asked("mean of 3, 4", w, w.mean(1), 1, 3);
        fill(w, 1, -3, -4);
        CHECK.asked("mean of -3, -4 is cut", w, w.mean(1), 1, -3);
        fill(w, 1, -8);
        CHECK.asked("mean of one", w, w.mean(1), 1, -8);
        fill(w, 1, HIGH, HIGH, HIGH - 3);
        CHECK.asked("mean of great ints", w, w.mean(1), 1, HIGH - 1);
        fill(w, 1, LOW, LOW);
        CHECK.asked("mean of the least ints", w, w.mean(1), 1, LOW);
        due("mean(6)", w.mean(6), BAD);
        due("mean(-1)", w.mean(-1), BAD);
        CHECK.finding("mean(0)", w, w.mean(0), NOTHING);
        w.row(0, 0);
        CHECK.finding("mean of none", w, w.mean(0), NOUGHT);
    }

    private static void promise8Text() {
        WeightedLaws w = new WeightedLaws();
        due("text(0, 0)", w.text(0, 0), 0);
        due("text(3, 40)", w.text(3, 40), 40);
        due("its last blank", w.put(3, 39, 1), 1032);
        due("text(3, 40) anew", w.text(3, 40), 40);
        due("blank anew", w.put(3, 39, 1), 1032);
        due("text(3, 41)", w.text(3, 41), BAD);
        due("text(4, 1)", w.text(4, 1), BAD);
        due("text(-1, -1)", w.text(-1, -1), BAD);
        CHECK.finding("text(3, -1)", w, w.text(3, -1), SIZE);
        due("TEXTS", w.count(6), 2);
        due("no ROWS by text()", w.count(5), 0);
    }

    private static void promise9Put() {
        WeightedLaws w = new WeightedLaws();
        w.text(1, 2);
        due("put(1, 0, 65)", w.put(1, 0, 65), 1032);
        due("put(1, 0, 200)", w.put(1, 0, 200), 1065);
        due("200 is cut to -56", w.put(1, 0, 256 + 66), 944);
        due("322 is cut to 66", w.put(1, 0, -1), 1066);
        due("-1 stays", w.put(1, 0, -128), 999);
        due("-128 stays", w.put(1, 0, 127), 872);
        due("127 stays", w.put(1, 0, 0), 1127);
        due("the other byte", w.put(1, 1, 0), 1032);
        due("put(4, ..)", w.put(4, 0, 0), BAD);
        due("put(-1, ..)", w.put(-1, 0, 0), BAD);
        CHECK.finding("put(0, ..)", w, w.put(0, 0, 0), NOTHING);
        CHECK.finding("put(1, 2, ..)", w, w.put(1, 2, 0), BEYOND);
        CHECK.finding("put(1, -1, ..)", w, w.put(1, -1, 0), BEYOND);
    }

    private static void promise10Names() {
        WeightedLaws w = new WeightedLaws();
        due("names(4)", w.names(4), 3);
        due("names(1)", w.names(1), 4);
        due("names(0)", w.names(0), BAD);
        due("names(5)", w.names(5), BAD);
        due("names(2)", w.names(2), 1);
        due("names(3)", w.names(3), 2);
        int[] sayings = {2, 6, 10, 14, 20, 22};
        for (int s : sayings) {
            for (int how = 1; how <= 3; how++) {
                w.tell(s, how);
                due("names(2) with " + s + " told " + how, w.names(2), STATE);
                due("names(3) with " + s + " told", w.names(3), 3);
                due(s + " stays told", w.how(s), how);
            }
            w.tell(s, 0);
        }
        w.tell(17, 1);
        due("names(1) with F of 1 and 1", w.names(1), STATE);
        due("names(2) with F of 1 and 1", w.names(2), 3);
        due("how many now", w.count(0), 2);
        due("17 stays told", w.how(17), 1);
    }

    private static void promise11Tell() {
        WeightedLaws w = new WeightedLaws();
        due("tell(0, 1)", w.tell(0, 1), 0);
        due("tell(0, 2)", w.tell(0, 2), 1);
        due("tell(0, 3)", w.tell(0, 3), 2);
        due("tell(0, 3) again", w.tell(0, 3), 3);
        due("tell(0, 0)", w.tell(0, 0), 3);
        due("tell(-1, 0)", w.tell(-1, 0), BAD);
        due("tell(28, 0)", w.tell(28, 0), BAD);
        due("tell(0, -1)", w.tell(0, -1), BAD);
        due("tell(0, 4)", w.tell(0, 4), BAD);
        for (int s : new int[] {3, 7, 11, 15, 19, 23, 24, 25, 26, 27}) {
            due("tell(" + s + ", 0) of no name", w.tell(s, 0), BAD);
            w.names(4);
            due("tell(" + s + ", 1) of a name", w.tell(s, 1), 0);
            w.tell(s, 0);
            w.names(3);
        }
        for (int s = 12; s < 22; s++) {
            if (s != 15 && s != 19) {
                due("seek " + s, w.tell(s, 3), 0);
            }
        }
        w.tell(0, 3);
        due("the tenth SOUGHT", w.tell(1, 3), 0);
        due("an eleventh SOUGHT", w.tell(2, 3), FULL);
        due("not told", w.how(2), 0);
        due("BAD ahead of FULL", w.tell(3, 3), BAD);
        due("the tenth again", w.tell(1, 3), 3);
        due("SEEN is not SOUGHT", w.tell(2, 1), 0);
        due("SEEN, then an eleventh SOUGHT", w.tell(2, 3), FULL);
        due("one less", w.tell(1, 2), 3);
        due("a tenth again", w.tell(2, 3), 1);
    }

    private static void promise12How() {
        WeightedLaws w = new WeightedLaws();
        w.tell(5, 2);
        w.tell(6, 3);
        due("how(5)", w.how(5), 2);
        due("how(6)", w.how(6), 3);
        due("how(27) of no name", w.how(27), 0);
        due("how(28)", w.how(28), BAD);
        due("how(-1)", w.how(-1), BAD);
    }

    private static void fault(String signs, int kind, int want) {
        WeightedLaws w = new WeightedLaws();
        Check.write(w, 0, signs);
        due("fault of '" + signs + "' for " + kind, w.fault(0, kind), want);
        due("law of '" + signs + "' for " + kind, Math.min(w.law(0, 0, kind, 0), 1), want == NONE ? 1 : STATE);
    }

    private static void promise13Fault() {
        for (int kind : new int[] {NOTE, HARD, SOFT}) {
            faultOfParts(kind);
        }
        faultOfCount();
        faultOfOnce();
        WeightedLaws w = new WeightedLaws();
        due("fault(4, 0)", w.fault(4, 0), BAD);
        due("fault(-1, 0)", w.fault(-1, 0), BAD);
        due("fault(0, 5)", w.fault(0, 5), BAD);
        due("fault(0, -1)", w.fault(0, -1), BAD);
        CHECK.finding("fault(0, 0)", w, w.fault(0, 0), NOTHING);
    }

    private static void faultOfParts(int kind) {
        for (String good : new String[] {"Ax", "By", "!Cx", "Fxx", "Fxy", "!Fyx", "Fyy", "  Ax", "Ax  ", " Ax|!By ",
            "Ax|Ay|Bx|By|Cx|Cy", "!Fxy|!Fxy|!Fxy|!Fxy|!Fxy|!Fxy           "}) {
            fault(good, kind, NONE);
        }
        fault("", kind, 0);
        fault("   ", kind, 3);
        fault("Dx", kind, 0);
        fault("Ex", kind, 0);
        fault("@x", kind, 0);
        fault("ax", kind, 0);
        fault("#1Ax", kind, 0);
        fault("1Ax", kind, 0);
        fault("|Ax", kind, 0);
        fault("!", kind, 1);
        fault("!!Ax", kind, 1);
        fault("! Ax", kind, 1);
        fault("A", kind, 1);
        fault("A x", kind, 1);
        fault("Aw", kind, 1);
        fault("Az", kind, 1);
        fault("Fx", kind, 2);
        fault("FxA", kind, 2);
        fault("Fz", kind, 1);
        fault("Axy", kind, 2);
        fault("Fxyx", kind, 3);
        fault("Ax|", kind, 3);
        fault("Ax||Bx", kind, 3);
        fault("Ax| Bx", kind, 3);
        fault("Ax |Bx", kind, 3);
        fault("Ax Bx", kind, 3);
        fault("Ax|!", kind, 4);
        fault("Ax|!|", kind, 4);
        fault("Ax|Ay|Bx|By|Cx|Cy|", kind, 17);
        fault("Ax|Ay|Bx|By|Cx|Cy|Ax", kind, 17);
        fault("Ax|Ay|Bx|By|Cx|", kind, 15);
    }

    private static void faultOfCount() {
        for (String good : new String[] {"#1Ax", "#2Bx", "#3Cx", "#4Fxx", "#1!Ax", " #1!Fxx  "}) {
            fault(good, COUNT, NONE);
        }
        fault("", COUNT, 0);
        fault("Ax", COUNT, 0);
        fault("1Ax", COUNT, 0);
        fault("#", COUNT, 1);
        fault("#0Ax", COUNT, 1);
        fault("#5Ax", COUNT, 1);
        fault("# 1Ax", COUNT, 1);
        fault("#1 Ax", COUNT, 2);
        fault("#1", COUNT, 2);
        fault("#12Ax", COUNT, 2);
        fault("#1Ay", COUNT, 3);
        fault("#1Fxy", COUNT, 4);
        fault("#1Fyx", COUNT, 3);
        fault("#1Ax|Bx", COUNT, 4);
        fault("  #1Ax |", COUNT, 7);
    }

    private static void faultOfOnce() {
        for (String good : new String[] {"1Ax", "1!Bx", "1Fxx", "  1!Fxx "}) {
            fault(good, ONCE, NONE);
        }
        fault("   ", ONCE, 3);
        fault("Ax", ONCE, 0);
        fault("#1Ax", ONCE, 0);
        fault("2Ax", ONCE, 0);
        fault("1", ONCE, 1);
        fault("11Ax", ONCE, 1);
        fault("1 Ax", ONCE, 1);
        fault("1Ay", ONCE, 2);
        fault("1Fxy", ONCE, 3);
        fault("1Ax|Bx", ONCE, 3);
    }

    private static void promise14Law() {
        WeightedLaws w = new WeightedLaws();
        due("of x", Check.law(w, 0, "Ax|!Fxx", HARD, 0), 3);
        due("of y", Check.law(w, 0, "Ay", HARD, 0), 3);
        due("of x and y", Check.law(w, 0, "Ax|By", HARD, 0), 9);
        due("of x and y in one part", Check.law(w, 7, "Fyx", NOTE, 0), 9);
        due("COUNT", Check.law(w, 1, "#2Ax", COUNT, 9), 1);
        due("ONCE", Check.law(w, 2, "1Ax", ONCE, 0), 1);
        due("SOFT", Check.law(w, 3, "Ax", SOFT, 0), 3);
        w.names(4);
        due("of x and y of four", Check.law(w, 0, "Ax|By", SOFT, 9), 16);
        w.names(1);
        due("of x and y of one", Check.law(w, 0, "Ax|By", SOFT, 9), 1);
        due("LAWS", w.count(3), 5);
        Check.write(w, 0, "Ax");
        due("law(8, ..)", w.law(8, 0, HARD, 0), BAD);
        due("law(-1, ..)", w.law(-1, 0, HARD, 0), BAD);
        due("law(.. 4 ..)", w.law(0, 4, HARD, 0), BAD);
        due("law(.. -1 ..)", w.law(0, -1, HARD, 0), BAD);
        due("law of KIND 5", w.law(0, 0, 5, 0), BAD);
        due("law of KIND -1", w.law(0, 0, -1, 0), BAD);
        for (int weight : new int[] {-1, 10, HIGH, LOW}) {
            due("SOFT of WEIGHT " + weight, w.law(0, 0, SOFT, weight), BAD);
            due("COUNT of WEIGHT " + weight, w.law(0, 0, COUNT, weight), BAD);
            due("HARD of WEIGHT " + weight, w.law(0, 0, HARD, weight), 1);
            due("NOTE of WEIGHT " + weight, w.law(0, 0, NOTE, weight), 1);
        }
        due("WEIGHT ahead of a missing TEXT", w.law(0, 1, SOFT, 10), BAD);
        CHECK.finding("of a missing TEXT", w, w.law(0, 1, SOFT, 9), NOTHING);
        due("a FAULT", w.law(0, 0, ONCE, 0), STATE);
        lawStaysAsRead(w);
    }

    private static void lawStaysAsRead(WeightedLaws w) {
        Check.law(w, 0, "Ax|!Bx", SOFT, 5);
        Check.write(w, 3, "Cx");
        w.fault(3, HARD);
        w.law(0, 3, COUNT, 1);
        CHECK.asked("a LAW stays when its TEXT changes: parts", w, w.told(0, 1), 1, 2);
        due("a LAW stays when its TEXT changes: WEIGHT", w.mark(0, SOFT), 5);
        w.law(0, 3, HARD, 1);
        CHECK.asked("a LAW anew: KIND", w, w.told(0, 0), 1, HARD);
        CHECK.asked("a LAW anew: parts", w, w.told(0, 1), 1, 1);
        due("a LAW anew has no WEIGHT", w.weight(0, 1), FINDING);
    }

    private static void promise15Drop() {
        WeightedLaws w = new WeightedLaws();
        Check.law(w, 7, "Ax", HARD, 0);
        due("drop(7)", w.drop(7), 1);
        due("no LAWS", w.count(3), 0);
        due("no HARD ones", w.count(4), 0);
        due("nothing is BARRED", w.likeliest(), 0);
        CHECK.finding("drop(7) again", w, w.drop(7), NOTHING);
        due("drop(8)", w.drop(8), BAD);
        due("drop(-1)", w.drop(-1), BAD);
    }

    private static void promise16Weight() {
        WeightedLaws w = new WeightedLaws();
        Check.law(w, 0, "Ax", SOFT, 4);
        Check.law(w, 1, "#1Ax", COUNT, 0);
        Check.law(w, 2, "Ax", NOTE, 4);
        Check.law(w, 3, "!Ax", HARD, 4);
        Check.law(w, 4, "1Ax", ONCE, 4);
        due("weight(0, 9)", w.weight(0, 9), 4);
        due("weight(0, 0)", w.weight(0, 0), 9);
        due("weight(1, 5)", w.weight(1, 5), 0);
        due("COST by the new WEIGHTS", w.cost(0), 5);
        due("weight(0, 10)", w.weight(0, 10), BAD);
        due("weight(0, -1)", w.weight(0, -1), BAD);
        due("weight(8, 1)", w.weight(8, 1), BAD);
        due("weight(-1, 1)", w.weight(-1, 1), BAD);
        CHECK.finding("weight(5, 1)", w, w.weight(5, 1), NOTHING);
        CHECK.finding("weight of a note", w, w.weight(2, 1), UNLIKE);
        CHECK.finding("weight of a HARD one", w, w.weight(3, 1), UNLIKE);
        CHECK.finding("weight of ONCE", w, w.weight(4, 1), UNLIKE);
    }

    private static void toldIs(WeightedLaws w, int k, int kind, int parts, int cases) {
        CHECK.asked("told(" + k + ", 0)", w, w.told(k, 0), 1, kind);
        CHECK.asked("told(" + k + ", 1)", w, w.told(k, 1), 1, parts);
        CHECK.asked("told(" + k + ", 2)", w, w.told(k, 2), 1, cases);
    }

    private static void promise17Told() {
        WeightedLaws w = new WeightedLaws();
        Check.law(w, 0, "Ax|By|Cx|Ax|By|Cx", NOTE, 0);
        Check.law(w, 1, "Ay", HARD, 0);
        Check.law(w, 2, "Fyy|Ay", SOFT, 1);
        Check.law(w, 3, "#1Ax", COUNT, 1);
        Check.law(w, 4, "1Ax", ONCE, 1);
        toldIs(w, 0, NOTE, 6, 9);
        toldIs(w, 1, HARD, 1, 3);
        toldIs(w, 2, SOFT, 2, 3);
        toldIs(w, 3, COUNT, 1, 1);
        toldIs(w, 4, ONCE, 1, 1);
        w.names(2);
        toldIs(w, 0, NOTE, 6, 4);
        toldIs(w, 1, HARD, 1, 2);
        toldIs(w, 3, COUNT, 1, 1);
        due("told(0, 3)", w.told(0, 3), BAD);
        due("told(0, -1)", w.told(0, -1), BAD);
        due("told(8, 0)", w.told(8, 0), BAD);
        due("told(-1, 0)", w.told(-1, 0), BAD);
        CHECK.finding("told(5, 0)", w, w.told(5, 0), NOTHING);
    }

    private static void promise18Mark() {
        WeightedLaws w = new WeightedLaws();
        Check.law(w, 0, "!Ax", NOTE, 0);
        Check.law(w, 1, "!Ax|By|!Fxy", HARD, 0);
        Check.law(w, 2, "!Ax", SOFT, 7);
        Check.law(w, 3, "#4!Cx", COUNT, 6);
        Check.law(w, 4, "1!Cx", ONCE, 0);
        Check.law(w, 5, "1Fxx", ONCE, 0);
        Check.law(w, 6, "1Bx", ONCE, 0);
        int[][] marks = {{-3, -3, -3, -3}, {2, -3, -3, -3}, {-3, 7, -3, -3}, {-3, 6, 4, -3}, {1, -3, -3, 8},
            {0, -3, -3, 12}, {0, -3, -3, 4}};
        for (int k = 0; k < marks.length; k++) {
            for (int kind = 1; kind <= 4; kind++) {
                due("mark(" + k + ", " + kind + ")", w.mark(k, kind), marks[k][kind - 1]);
            }
        }
        due("UNLIKE", w.findings(UNLIKE), 18);
        due("mark(1, 0)", w.mark(1, 0), BAD);
        due("mark(1, 5)", w.mark(1, 5), BAD);
        due("mark(1, -1)", w.mark(1, -1), BAD);
        due("mark(8, 1)", w.mark(8, 1), BAD);
        due("mark(-1, 1)", w.mark(-1, 1), BAD);
        CHECK.finding("mark(7, 1)", w, w.mark(7, 1), NOTHING);
    }

    // ---- 2 worlds, odds

    private static void promise19Worlds() {
        WeightedLaws w = new WeightedLaws();
        Check.law(w, 0, "Ax", HARD, 0);
        int n = 1;
        for (int s : new int[] {0, 1, 2, 4, 5, 6, 8, 9, 10, 22}) {
            w.tell(s, 3);
            n *= 2;
            due("worlds(), BARRED ones too", w.worlds(), n);
        }
        w.tell(22, 1);
        due("worlds() of nine", w.worlds(), 512);
    }

    private static void promise20Cost() {
        WeightedLaws w = new WeightedLaws();
        // A of 0 is SOUGHT (bit 0), B of 1 (bit 1), A of 1 is SEEN so, A of 2 is not so by default.
        w.tell(0, 3);
        w.tell(5, 3);
        w.tell(1, 1);
        Check.law(w, 0, "!Ax|Bx", SOFT, 3);
        Check.law(w, 1, "!Ax", HARD, 0);
        Check.law(w, 2, "#2Ax", COUNT, 5);
        Check.law(w, 3, "1Bx", ONCE, 0);
        Check.law(w, 4, "Ax", NOTE, 0);
        CHECK.asked("cost(0)", w, w.cost(0), 3 + 5, 2);
        CHECK.asked("cost(1)", w, w.cost(1), 6, 3);
        CHECK.asked("cost(2)", w, w.cost(2), 5, 1);
        CHECK.asked("cost(3)", w, w.cost(3), 3, 2);
        due("cost(4)", w.cost(4), BAD);
        due("cost(-1)", w.cost(-1), BAD);
        w.names(4);
        CHECK.asked("cost(3) of four", w, w.cost(3), 3, 2);
        Check.law(w, 5, "Cx", SOFT, 2);
        CHECK.asked("cost(3) of four with one more", w, w.cost(3), 11, 2);
        w.names(3);
        CHECK.asked("cost(3) of three with one more", w, w.cost(3), 9, 2);
        WeightedLaws all = new WeightedLaws();
        all.names(4);
        for (int k = 0; k < 8; k++) {
            Check.law(all, k, "Fxy|Ax", SOFT, 9);
        }
        CHECK.asked("the greatest COST", all, all.cost(0), 1152, 0);
        due("likeliest at that COST", all.likeliest(), 0);
    }

    private static void promise21Broken() {
        WeightedLaws w = new WeightedLaws();
        w.tell(0, 3);
        w.tell(13, 3);
        w.tell(16, 1);
        w.tell(2, 2);
        Check.law(w, 0, "Ax", HARD, 0);
        Check.law(w, 1, "!Fxy|Fyx", SOFT, 0);
        Check.law(w, 2, "#1Ax", COUNT, 0);
        Check.law(w, 3, "1!Ax", ONCE, 0);
        Check.law(w, 4, "Ax", NOTE, 0);
        Check.law(w, 5, "Ax|!Ax", SOFT, 1);
        int[][] broken = {{3, 1, 1, 1, 0, 0}, {2, 1, 0, 1, 0, 0}, {3, 0, 1, 1, 0, 0}, {2, 0, 0, 1, 0, 0}};
        for (int world = 0; world < 4; world++) {
            for (int k = 0; k < 6; k++) {
                due("broken(" + k + ", " + world + ")", w.broken(k, world), broken[world][k]);
            }
        }
        w.tell(1, 1);
        due("just one is not so", w.broken(3, 1), 0);
        due("broken(8, 0)", w.broken(8, 0), BAD);
        due("broken(-1, 0)", w.broken(-1, 0), BAD);
        due("broken(0, 4)", w.broken(0, 4), BAD);
        due("broken(0, -1)", w.broken(0, -1), BAD);
        due("broken(6, 4): BAD ahead", w.broken(6, 4), BAD);
        CHECK.finding("broken(6, 0)", w, w.broken(6, 0), NOTHING);
        w.names(4);
        Check.law(w, 7, "Fxy|Fyx", SOFT, 1);
        due("sixteen CASES less two", w.broken(7, 0), 14);
    }

    private static void promise22Likeliest() {
        WeightedLaws w = new WeightedLaws();
        CHECK.asked("likeliest() of one WORLD", w, w.likeliest(), 0, 0);
        w.tell(0, 3);
        w.tell(1, 3);
        CHECK.asked("the least of alike ones", w, w.likeliest(), 0, 0);
        Check.law(w, 0, "#2Ax", COUNT, 4);
        CHECK.asked("both so", w, w.likeliest(), 3, 0);
        Check.law(w, 1, "1Ax", ONCE, 0);
        CHECK.asked("BARRED are left out", w, w.likeliest(), 1, 4);
        Check.law(w, 2, "!Ax", HARD, 0);
        due("all are BARRED", w.likeliest(), NONE);
        due("asked() stays", w.asked(), 4);
        due("NONE is no FINDING", w.finding(), 0);
    }

    private static void promise23Near() {
        WeightedLaws w = new WeightedLaws();
        w.names(4);
        for (int s = 0; s < 4; s++) {
            w.tell(s, 3);
        }
        Check.law(w, 0, "!Ax", SOFT, 9);
        Check.law(w, 1, "Bx", SOFT, 2);
        int[][] due = {{0, 1}, {8, 1}, {9, 5}, {17, 5}, {18, 11}, {27, 15}, {35, 15}, {36, 16}, {999, 16}};
        for (int[] d : due) {
            due("near(" + d[0] + ")", w.near(d[0]), d[1]);
        }
        due("near(-1)", w.near(-1), BAD);
        due("near(1000)", w.near(1000), BAD);
        Check.law(w, 2, "1Ax", ONCE, 0);
        due("BARRED are left out", w.near(999), 4);
        Check.law(w, 3, "!Ax", HARD, 0);
        due("none is left", w.near(999), 0);
        due("none is no FINDING", w.finding(), 0);
    }

    private static void promise24Odds() {
        WeightedLaws w = new WeightedLaws();
        CHECK.fraction("by default", w, w.odds(0), 0, 1);
        CHECK.fraction("of no name", w, w.odds(27), 0, 1);
        w.tell(0, 3);
        w.tell(1, 1);
        w.tell(2, 2);
        CHECK.fraction("SOUGHT", w, w.odds(0), 1, 2);
        CHECK.fraction("SEEN so", w, w.odds(1), 1, 1);
        CHECK.fraction("SEEN not so", w, w.odds(2), 0, 1);
        Check.law(w, 0, "Ax", SOFT, 9);
        CHECK.fraction("of WEIGHT 9", w, w.odds(0), 512, 513);
        Check.law(w, 1, "Ax", SOFT, 9);
        Check.law(w, 2, "Ax", SOFT, 2);
        CHECK.fraction("above by 20", w, w.odds(0), 1 << 20, (1 << 20) + 1);
        w.weight(2, 3);
        CHECK.fraction("above by 21", w, w.odds(0), 1, 1);
        Check.law(w, 3, "!Ax", HARD, 0);
        w.tell(1, 2);
        CHECK.fraction("HARD", w, w.odds(0), 0, 1);
        w.tell(1, 1);
        CHECK.finding("all are BARRED", w, w.odds(0), NOUGHT);
        due("odds(28)", w.odds(28), BAD);
        due("odds(-1)", w.odds(-1), BAD);
    }

    private static void promise25Both() {
        WeightedLaws w = new WeightedLaws();
        w.tell(0, 3);
        w.tell(4, 3);
        w.tell(1, 1);
        Check.law(w, 0, "!Ax|Bx", SOFT, 2);
        // WORLDS 0, 2, 3 cost 2 (by name 1), WORLD 1 (A alone) costs 4: SHARES are as 4, 1, 4, 4.
        CHECK.fraction("both(0, 4)", w, w.both(0, 4), 4, 13);
        CHECK.fraction("both(0, 0)", w, w.both(0, 0), 5, 13);
        CHECK.fraction("both(0, 1)", w, w.both(0, 1), 5, 13);
        CHECK.fraction("both(0, 2)", w, w.both(0, 2), 0, 1);
        due("both(28, 0)", w.both(28, 0), BAD);
        due("both(0, 28)", w.both(0, 28), BAD);
        due("both(-1, 0)", w.both(-1, 0), BAD);
        due("both(0, -1)", w.both(0, -1), BAD);
        Check.law(w, 1, "!Ax", HARD, 0);
        CHECK.finding("both, all are BARRED", w, w.both(0, 4), NOUGHT);
    }

    private static void promise26Given() {
        WeightedLaws w = new WeightedLaws();
        w.tell(0, 3);
        w.tell(4, 3);
        Check.law(w, 0, "!Ax|Bx", SOFT, 2);
        CHECK.fraction("given(4, 0)", w, w.given(4, 0), 4, 5);
        CHECK.fraction("given(0, 4)", w, w.given(0, 4), 1, 2);
        CHECK.fraction("given(0, 0)", w, w.given(0, 0), 1, 1);
        CHECK.fraction("given(5, 0)", w, w.given(5, 0), 0, 1);
        CHECK.finding("given what is never so", w, w.given(0, 5), NOUGHT);
        due("given(28, 0)", w.given(28, 0), BAD);
        due("given(0, 28)", w.given(0, 28), BAD);
        due("given(-1, 0)", w.given(-1, 0), BAD);
        due("given(0, -1)", w.given(0, -1), BAD);
        for (int k = 1; k < 4; k++) {
            Check.law(w, k, "!Ax", SOFT, 7);
        }
        CHECK.finding("given what has no SHARE", w, w.given(4, 0), NOUGHT);
        Check.law(w, 4, "Ax", HARD, 7);
        CHECK.finding("given, all are BARRED", w, w.given(4, 0), NOUGHT);
    }

    private static void promise27Alike() {
        for (int base : new int[] {0, 4, 8}) {
            WeightedLaws w = new WeightedLaws();
            due("alike(0, 1) at first", w.alike(0, 1), 1);
            w.tell(base, 1);
            due("alike(0, 1), one is told", w.alike(0, 1), 0);
            due("alike(1, 2), another is told", w.alike(1, 2), 1);
            due("alike(0, 0)", w.alike(0, 0), 1);
            w.tell(base + 1, 2);
            due("alike(1, 0), told otherwise", w.alike(1, 0), 0);
            w.tell(base + 1, 1);
            due("alike(1, 0), told alike", w.alike(1, 0), 1);
        }
        WeightedLaws w = new WeightedLaws();
        w.tell(13, 3);
        due("F of 0 and 1", w.alike(0, 1), 0);
        w.tell(16, 3);
        due("F of 1 and 0, too", w.alike(0, 1), 1);
        w.tell(12, 1);
        due("F of 0 and 0", w.alike(0, 1), 0);
        w.tell(17, 1);
        due("F of 1 and 1, too", w.alike(0, 1), 1);
        w.tell(14, 2);
        due("F of 0 and 2", w.alike(0, 1), 0);
        w.tell(18, 2);
        due("F of 1 and 2, too", w.alike(0, 1), 1);
        w.tell(21, 2);
        due("F of 2 and 1", w.alike(0, 1), 0);
        due("alike(0, 3)", w.alike(0, 3), BAD);
        due("alike(3, 0)", w.alike(3, 0), BAD);
        due("alike(-1, 0)", w.alike(-1, 0), BAD);
        due("alike(0, -1)", w.alike(0, -1), BAD);
        w.names(4);
        due("alike(3, 3) of four", w.alike(3, 3), 1);
    }

    private static void promise28Draw() {
        WeightedLaws w = new WeightedLaws();
        w.tell(0, 3);
        w.tell(1, 3);
        // l = 0: 12345, then -740551042: v = 0 times 32768 and 21468, so the limit is 83 of 2 to the power of 22.
        CHECK.asked("draw(0, 1, 0)", w, w.draw(0, 1, 0), 0, 0);
        int l = 1;
        int so = 0;
        int world = 0;
        for (int i = 0; i < 200; i++) {
            l = l * 1103515245 + 12345;
            // All SHARES are alike, so that the first two of all 30 bits tell the WORLD.
            world = (l >>> 29) & 3;
            so += world & 1;
            l = l * 1103515245 + 12345;
        }
        CHECK.asked("draw(1, 200, 0)", w, w.draw(1, 200, 0), so, world);
        w.tell(1, 1);
        w.tell(0, 2);
        CHECK.asked("what is SEEN so", w, w.draw(5, 7, 1), 7, 0);
        CHECK.asked("of no name", w, w.draw(LOW, 7, 27), 0, 0);
        w.tell(0, 3);
        Check.law(w, 0, "Ax", HARD, 0);
        due("draw(0, 0, 0)", w.draw(0, 0, 0), BAD);
        due("draw(0, 201, 0)", w.draw(0, 201, 0), BAD);
        due("draw(0, -1, 0)", w.draw(0, -1, 0), BAD);
        due("draw(0, 1, 28)", w.draw(0, 1, 28), BAD);
        due("draw(0, 1, -1)", w.draw(0, 1, -1), BAD);
        CHECK.finding("draw, all are BARRED", w, w.draw(0, 1, 0), NOUGHT);
        w.tell(2, 1);
        CHECK.asked("a BARRED one is never drawn", w, w.draw(9, 200, 0), 200, 1);
        // l = 104621: v is 469, so the limit is 0, which no SHARE of WORLD 0 is above.
        CHECK.asked("nor at a limit of 0", w, w.draw(104621, 1, 0), 1, 1);
        drawAtLimits();
    }

    private static void drawAtLimits() {
        WeightedLaws w = new WeightedLaws();
        w.tell(0, 3);
        // l = 1619660: v is 2 to the power of 29 and 269, so the limit is just the SHARE of WORLD 0: not above.
        CHECK.asked("the limit is reached", w, w.draw(1619660, 1, 0), 1, 1);
        // l = 1519540229: v is the greatest.
        CHECK.asked("the greatest limit", w, w.draw(1519540229, 1, 0), 1, 1);
        w.tell(4, 3);
        CHECK.asked("the greatest limit of four WORLDS", w, w.draw(1519540229, 1, 0), 1, 3);
    }

    // ---- 3 learning, why, acts

    private static WeightedLaws twoSought() {
        WeightedLaws w = new WeightedLaws();
        w.tell(0, 3);
        w.tell(4, 3);
        return w;
    }

    private static void learned(String call, WeightedLaws w, int got, int want, long upper, long lower) {
        due(call, got, want);
        due(call + " upper()", w.upper(), upper);
        due(call + " lower()", w.lower(), lower);
    }

    private static void promise29Learn() {
        WeightedLaws w = twoSought();
        Check.law(w, 1, "!Ax|Bx", SOFT, 9);
        Check.law(w, 4, "!Ax", SOFT, 9);
        learned("learn(3, 2, 0)", w, w.learn(3, 2, 0), 3, 8, 8201);
        w.weight(4, 0);
        learned("WORLD 3 by one", w, w.learn(3, 2, 0), 3, 8, 25);
        due("it has come to the LAW", w.mark(1, SOFT), 3);
        due("others keep theirs", w.mark(4, SOFT), 0);
        learned("WORLD 0 by two", w, w.learn(0, 18, 0), 33, 64, 137);
        due("they have come to the first LAW", w.mark(1, SOFT), 3);
        due("they have come to the second LAW", w.mark(4, SOFT), 3);
        learned("paid by 1", w, w.learn(0, 18, 1), 0, 1, 4);
        learned("WORLD 1 is better off without", w, w.learn(1, 18, 0), 0, 1, 4);

        WeightedLaws same = twoSought();
        Check.law(same, 0, "Ax", SOFT, 1);
        Check.law(same, 3, "Ax", SOFT, 1);
        Check.law(same, 7, "Ax", SOFT, 1);
        learned("three alike", same, same.learn(1, 137, 0), 333, 256, 513);
        learned("the first of alike ones", same, same.learn(0, 137, 0), 0, 1, 4);
        same.tell(0, 1);
        same.tell(1, 1);
        same.tell(2, 1);
        learned("what tells nothing is 0", same, same.learn(1, 137, 0), 0, 1, 2);
        learnedCount();
        learnedWithoutShare();
        learnedFirstOfAlike();
    }

    private static void learnedFirstOfAlike() {
        WeightedLaws w = new WeightedLaws();
        w.tell(0, 3);
        w.tell(1, 3);
        w.tell(2, 3);
        Check.law(w, 2, "Ax", SOFT, 9);
        Check.law(w, 5, "Ax", SOFT, 9);
        // Of three names a sum of 1 is 8 by 27, paid 4 by 27: above 1 by 8 for none, and 16 by 125 for 2.
        learned("first by LAWS, paid by 1", w, w.learn(7, 36, 1), 1, 8, 27);
        due("the first LAW has the lesser one", w.mark(2, SOFT), 0);
        due("the second LAW has the other one", w.mark(5, SOFT), 1);
        learned("paid by 2", w, w.learn(7, 36, 2), 0, 1, 8);
    }

    private static void learnedCount() {
        WeightedLaws w = twoSought();
        Check.law(w, 2, "#1Ax", COUNT, 9);
        learned("COUNT is SOFT", w, w.learn(1, 4, 0), 3, 4, 9);
        learned("COUNT, paid by 2", w, w.learn(1, 4, 2), 0, 1, 4);
        Check.law(w, 0, "#1Ax", COUNT, 9);
        Check.law(w, 3, "!Bx|Ax", HARD, 0);
        learned("COUNT beside COUNT", w, w.learn(1, 5, 0), 33, 64, 129);
        learned("COUNT beside COUNT, paid by 1", w, w.learn(1, 5, 1), 0, 1, 3);
    }

    private static void learnedWithoutShare() {
        WeightedLaws w = twoSought();
        Check.law(w, 0, "!Ax", SOFT, 9);
        Check.law(w, 1, "!Ax", SOFT, 9);
        Check.law(w, 2, "!Ax", SOFT, 9);
        Check.law(w, 3, "Ax|Bx", SOFT, 2);
        learned("no SHARE at all: the least sum", w, w.learn(1, 8, 0), 0, 0, 1);
        due("which comes to the LAW, too", w.mark(3, SOFT), 0);
    }

    private static void promise29LearnRefused() {
        WeightedLaws w = twoSought();
        Check.law(w, 0, "!Ax", SOFT, 1);
        Check.law(w, 1, "!Bx", HARD, 1);
        Check.law(w, 2, "Ax", NOTE, 1);
        Check.law(w, 4, "1Ax", ONCE, 1);
        due("learn(-1, 1, 0)", w.learn(-1, 1, 0), BAD);
        due("learn(4, 1, 0)", w.learn(4, 1, 0), BAD);
        due("learn(0, 0, 0)", w.learn(0, 0, 0), BAD);
        due("learn(0, 256, 0)", w.learn(0, 256, 0), BAD);
        due("learn(0, -1, 0)", w.learn(0, -1, 0), BAD);
        due("learn(0, LOW, 0)", w.learn(0, LOW, 0), BAD);
        due("learn(0, 15, 0)", w.learn(0, 15, 0), BAD);
        due("learn(0, 1, -1)", w.learn(0, 1, -1), BAD);
        due("learn(0, 1, 3)", w.learn(0, 1, 3), BAD);
        CHECK.finding("learn(0, 8, 0)", w, w.learn(0, 8, 0), NOTHING);
        CHECK.finding("learn(0, 10, 0): NOTHING ahead of UNLIKE", w, w.learn(0, 10, 0), NOTHING);
        CHECK.finding("learn of a HARD one", w, w.learn(1, 3, 0), UNLIKE);
        CHECK.finding("learn of a note", w, w.learn(1, 5, 0), UNLIKE);
        CHECK.finding("learn of ONCE", w, w.learn(1, 16, 0), UNLIKE);
        due("the WORLD is BARRED", w.learn(0, 1, 0), STATE);
        Check.law(w, 3, "!Ax", HARD, 0);
        CHECK.finding("UNLIKE ahead of NOUGHT", w, w.learn(1, 16, 0), UNLIKE);
        CHECK.finding("all are BARRED", w, w.learn(1, 1, 0), NOUGHT);
        due("its WEIGHT stays", w.mark(0, SOFT), 1);
    }

    private static void promise30Pull() {
        WeightedLaws w = twoSought();
        Check.law(w, 0, "!Ax|Bx", SOFT, 2);
        Check.law(w, 1, "Cx", NOTE, 0);
        Check.law(w, 2, "Ax", SOFT, 1);
        // SHARES are as 2, 1, 2, 4, so ODDS are 5 by 9; without LAW 2 as 4, 1, 4, 4, so 5 by 13.
        CHECK.fraction("pull(2, 0)", w, w.pull(2, 0), 5 * 13 - 5 * 9, 9 * 13);
        CHECK.fraction("pull(0, 0)", w, w.pull(0, 0), -1, 9);
        CHECK.fraction("pull(0, 4)", w, w.pull(0, 4), 1, 6);
        CHECK.fraction("a note pulls nothing", w, w.pull(1, 0), 0, 1);
        due("pull(8, 0)", w.pull(8, 0), BAD);
        due("pull(-1, 0)", w.pull(-1, 0), BAD);
        due("pull(0, 28)", w.pull(0, 28), BAD);
        due("pull(0, -1)", w.pull(0, -1), BAD);
        CHECK.finding("pull(3, 0)", w, w.pull(3, 0), NOTHING);
        Check.law(w, 3, "#1Ax", COUNT, 0);
        w.drop(3);
        Check.law(w, 3, "1Ax", ONCE, 0);
        CHECK.fraction("a HARD one pulls", w, w.pull(3, 0), 4, 9);
        Check.law(w, 4, "1!Ax", ONCE, 0);
        CHECK.finding("NOUGHT with it", w, w.pull(4, 0), NOUGHT);
        Check.law(w, 5, "Cx", HARD, 0);
        CHECK.finding("NOUGHT with it and without", w, w.pull(4, 0), NOUGHT);
    }

    private static void promise31Why() {
        WeightedLaws w = twoSought();
        due("a half is no more than a half", w.why(0), 0);
        Check.law(w, 6, "Ax", SOFT, 2);
        due("the one LAW", w.why(0), 64);
        Check.law(w, 2, "Ax", SOFT, 2);
        due("both LAWS", w.why(0), 68);
        Check.law(w, 1, "!Ax", SOFT, 3);
        due("one is enough: the least bits", w.why(0), 4);
        w.weight(2, 1);
        w.weight(1, 1);
        due("the one that is enough", w.why(0), 64);
        Check.law(w, 0, "Ax", NOTE, 2);
        due("a note is not among them", w.why(0), 64);
        Check.law(w, 3, "1Ax", ONCE, 2);
        due("two, the least bits", w.why(0), 72);
        w.tell(1, 1);
        due("never so", w.why(0), 0);
        w.drop(3);
        due("SEEN so: not without all", w.why(1), NONE);
        due("SEEN not so", w.why(2), 0);
        due("why(28)", w.why(28), BAD);
        due("why(-1)", w.why(-1), BAD);
        Check.law(w, 7, "Ax", HARD, 2);
        CHECK.finding("NOUGHT", w, w.why(0), NOUGHT);
        WeightedLaws all = twoSought();
        for (int k = 0; k < 8; k++) {
            Check.law(all, k, "Ax", SOFT, 1);
        }
        due("all eight LAWS", all.why(0), 255);
    }

    private static void promise32Otherwise() {
        WeightedLaws w = twoSought();
        Check.law(w, 0, "!Ax|Bx", SOFT, 2);
        CHECK.fraction("A so: B", w, w.otherwise(0, 1, 4), 4, 5);
        CHECK.fraction("A not so: B", w, w.otherwise(0, 2, 4), 1, 2);
        CHECK.fraction("A by default: B", w, w.otherwise(0, 0, 4), 1, 2);
        CHECK.fraction("A as it is: B", w, w.otherwise(0, 3, 4), 8, 13);
        CHECK.fraction("A so: A", w, w.otherwise(0, 1, 0), 1, 1);
        CHECK.fraction("another SOUGHT one", w, w.otherwise(2, 3, 2), 1, 5);
        CHECK.fraction("of no name", w, w.otherwise(2, 1, 3), 0, 1);
        due("A is told as before", w.how(0), 3);
        due("another is told as before", w.how(2), 0);
        CHECK.fraction("the ODDS are as before", w, w.odds(4), 8, 13);
        due("otherwise(28, 0, 0)", w.otherwise(28, 0, 0), BAD);
        due("otherwise(-1, 0, 0)", w.otherwise(-1, 0, 0), BAD);
        due("otherwise(3, 0, 0) of no name", w.otherwise(3, 0, 0), BAD);
        due("otherwise(0, 4, 0)", w.otherwise(0, 4, 0), BAD);
        due("otherwise(0, -1, 0)", w.otherwise(0, -1, 0), BAD);
        due("otherwise(0, 0, 28)", w.otherwise(0, 0, 28), BAD);
        due("otherwise(0, 0, -1)", w.otherwise(0, 0, -1), BAD);
        Check.law(w, 1, "1Ax", ONCE, 0);
        CHECK.finding("all are BARRED for once", w, w.otherwise(0, 2, 4), NOUGHT);
        due("told as before, refused too", w.how(0), 3);
        w.tell(0, 2);
        CHECK.finding("all are BARRED", w, w.odds(4), NOUGHT);
        CHECK.fraction("but not otherwise", w, w.otherwise(0, 1, 4), 4, 5);
        for (int s : new int[] {1, 2, 5, 6, 8, 9, 10, 12, 13}) {
            w.tell(s, 3);
        }
        due("an eleventh SOUGHT one", w.otherwise(0, 3, 0), FULL);
        due("one that is SOUGHT", w.otherwise(1, 3, 0), 1);
        due("BAD ahead of FULL", w.otherwise(0, 3, 28), BAD);
    }

    private static void acted(String call, WeightedLaws w, int got, int want, long upper, long lower) {
        learned(call, w, got, want, upper, lower);
    }

    private static void promise33Act() {
        WeightedLaws w = twoSought();
        Check.law(w, 0, "Ax", SOFT, 2);
        fill(w, 0, 10, -10, 5, 5, 6, 1);
        acted("act(0, 0)", w, w.act(0, 0), 0, 6, 1);
        acted("act(4, 0)", w, w.act(4, 0), 1, 5, 1);
        acted("act(5, 0) of what is not so", w, w.act(5, 0), 1, 5, 1);
        fill(w, 1, -99, 99, 3, 3, 3, 3);
        acted("the first of alike ones", w, w.act(0, 1), 1, 3, 1);
        acted("what is not so", w, w.act(5, 1), 0, 99, 1);
        fill(w, 2, -7, -99);
        acted("below 0", w, w.act(0, 2), 0, -127, 5);
        fill(w, 3, 1, -4);
        acted("nought", w, w.act(0, 3), 0, 0, 1);
        due("act(28, 0)", w.act(28, 0), BAD);
        due("act(-1, 0)", w.act(-1, 0), BAD);
        due("act(0, 6)", w.act(0, 6), BAD);
        due("act(0, -1)", w.act(0, -1), BAD);
        worthsRefused(w);
    }

    private static void worthsRefused(WeightedLaws w) {
        CHECK.finding("act by a missing ROW", w, w.act(0, 5), NOTHING);
        CHECK.finding("look by a missing ROW", w, w.look(0, 5, 4), NOTHING);
        fill(w, 5);
        CHECK.finding("act by no pairs", w, w.act(0, 5), SIZE);
        CHECK.finding("look by no pairs", w, w.look(0, 5, 4), SIZE);
        fill(w, 5, 1, 2, 100);
        CHECK.finding("act: SIZE ahead of UNLIKE", w, w.act(0, 5), SIZE);
        CHECK.finding("look: SIZE ahead of UNLIKE", w, w.look(0, 5, 4), SIZE);
        for (int worth : new int[] {100, -100, HIGH, LOW}) {
            fill(w, 5, 1, 2, 3, worth);
            CHECK.finding("act by " + worth, w, w.act(0, 5), UNLIKE);
            CHECK.finding("look by " + worth, w, w.look(0, 5, 4), UNLIKE);
        }
        Check.law(w, 7, "Cx", HARD, 0);
        CHECK.finding("act: UNLIKE ahead of NOUGHT", w, w.act(0, 5), UNLIKE);
        CHECK.finding("look: UNLIKE ahead of NOUGHT", w, w.look(0, 5, 4), UNLIKE);
        fill(w, 5, 1, 2);
        CHECK.finding("act, all are BARRED", w, w.act(0, 5), NOUGHT);
        CHECK.finding("look, all are BARRED", w, w.look(0, 5, 4), NOUGHT);
    }

    private static void promise34Look() {
        WeightedLaws w = twoSought();
        Check.law(w, 0, "!Ax|Bx", SOFT, 2);
        fill(w, 0, 10, -10, -10, 10, 1, 1);
        // SHARES of A and B: neither 4, A alone 1, B alone 4, both 4 (of 13).
        acted("act ahead", w, w.act(0, 0), 1, 30, 13);
        CHECK.fraction("look at B", w, w.look(0, 0, 4), 30 + 8 - 30, 13);
        CHECK.fraction("look at A itself", w, w.look(0, 0, 0), 130 - 30, 13);
        CHECK.fraction("look at what is never so", w, w.look(0, 0, 5), 0, 1);
        w.weight(0, 0);
        CHECK.fraction("look with another WEIGHT", w, w.look(0, 0, 0), 9, 1);
        w.weight(0, 2);
        w.tell(4, 2);
        CHECK.fraction("look, told otherwise", w, w.look(0, 0, 0), 4, 1);
        w.tell(4, 3);
        w.tell(8, 1);
        CHECK.fraction("look at what is SEEN", w, w.look(0, 0, 8), 0, 1);
        due("look(28, 0, 0)", w.look(28, 0, 0), BAD);
        due("look(-1, 0, 0)", w.look(-1, 0, 0), BAD);
        due("look(0, 6, 0)", w.look(0, 6, 0), BAD);
        due("look(0, -1, 0)", w.look(0, -1, 0), BAD);
        due("look(0, 0, 28)", w.look(0, 0, 28), BAD);
        due("look(0, 0, -1)", w.look(0, 0, -1), BAD);
    }

    private static void promise35Wrong() {
        WeightedLaws w = twoSought();
        due("nothing is SEEN", w.wrong(), NONE);
        w.tell(1, 1);
        w.tell(2, 2);
        w.tell(5, 2);
        due("nothing falls", w.wrong(), NONE);
        due("NONE tells nothing", w.asked(), 0);
        Check.law(w, 0, "!Ax|Bx", SOFT, 3);
        CHECK.asked("the first of alike ones", w, w.wrong(), 1, 3);
        Check.law(w, 1, "Ax", SOFT, 2);
        CHECK.asked("the greatest fall", w, w.wrong(), 5, 3);
        w.weight(1, 9);
        CHECK.asked("SEEN not so, told so", w, w.wrong(), 2, 6);
        due("told as before", w.how(2), 2);
        CHECK.asked("COST as before", w, w.likeliest(), 3, 12);
        w.weight(0, 0);
        w.weight(1, 1);
        CHECK.asked("a fall by 1", w, w.wrong(), 2, 1);
        w.weight(1, 0);
        due("nothing falls, by WEIGHTS of 0", w.wrong(), NONE);
        due("asked() stays", w.asked(), 1);
        wrongOfNoWorld();
    }

    private static void wrongOfNoWorld() {
        WeightedLaws w = new WeightedLaws();
        w.tell(0, 1);
        w.tell(1, 1);
        w.tell(4, 1);
        w.tell(8, 3);
        Check.law(w, 0, "1Ax", ONCE, 0);
        due("no WORLD", w.likeliest(), NONE);
        CHECK.asked("the first of alike ones", w, w.wrong(), 0, 1000);
        due("still no WORLD", w.likeliest(), NONE);
        due("all told as before", w.how(0) + w.how(1) + w.how(4), 3);
        Check.law(w, 1, "!Ax|Bx", SOFT, 4);
        // Without A of 0 that of 1 costs 4, without A of 1 that of 0 costs nothing; from no WORLD both fall by 1000.
        CHECK.asked("alike, though the second WORLD costs less", w, w.wrong(), 0, 1000);
        w.cost(0);
        w.tell(2, 1);
        int before = w.asked();
        due("none of them tells a WORLD", w.wrong(), NONE);
        due("NONE tells nothing", w.asked(), before);
        wrongSkipsWhatTellsNoWorld();
        wrongToDearWorld();
    }

    private static void wrongSkipsWhatTellsNoWorld() {
        WeightedLaws w = new WeightedLaws();
        w.tell(0, 1);
        w.tell(4, 2);
        w.tell(5, 1);
        w.tell(6, 1);
        Check.law(w, 0, "Bx", HARD, 0);
        Check.law(w, 1, "!Cx|By", SOFT, 9);
        CHECK.asked("the first does not help", w, w.wrong(), 4, 1000);
        due("told as before", w.how(4), 2);
    }

    private static void wrongToDearWorld() {
        WeightedLaws dear = new WeightedLaws();
        dear.names(4);
        dear.tell(0, 1);
        dear.tell(1, 1);
        Check.law(dear, 7, "1Ax", ONCE, 0);
        for (int k = 0; k < 7; k++) {
            Check.law(dear, k, "Bx|Cy", SOFT, 9);
        }
        CHECK.asked("a WORLD that costs more than 1000 is one nonetheless", dear, dear.wrong(), 0, 1000);
        dear.tell(1, 0);
        CHECK.asked("it costs so much", dear, dear.likeliest(), 0, 1008);
        due("and a SEEN one that falls by none", dear.wrong(), NONE);
    }

    private static void promise36Held() {
        WeightedLaws w = rowOf(0, 3, 1, 3, 0, 0, 1, 10, 0, 3, 1);
        CHECK.asked("held(0, 3)", w, w.held(0, 3), 2, 3);
        CHECK.asked("held(0, 0)", w, w.held(0, 0), 1, 1);
        CHECK.asked("held(0, 10)", w, w.held(0, 10), 0, 1);
        CHECK.asked("held(0, 5)", w, w.held(0, 5), 0, 0);
        due("held(0, 11)", w.held(0, 11), BAD);
        due("held(0, -1)", w.held(0, -1), BAD);
        due("held(6, 0)", w.held(6, 0), BAD);
        due("held(-1, 0)", w.held(-1, 0), BAD);
        CHECK.finding("held(1, 0)", w, w.held(1, 0), NOTHING);
        w.row(1, 0);
        CHECK.asked("by no pairs", w, w.held(1, 0), 0, 0);
        fill(w, 1, 1, 1, 11);
        CHECK.finding("SIZE ahead of UNLIKE", w, w.held(1, 0), SIZE);
        int[][] pairs = {{11, 1}, {-1, 0}, {5, 2}, {5, -1}, {LOW, 0}, {0, HIGH}};
        for (int[] pair : pairs) {
            fill(w, 1, 5, 1, pair[0], pair[1]);
            CHECK.finding("held by " + pair[0] + ", " + pair[1], w, w.held(1, 5), UNLIKE);
        }
    }

    // ---- 4 what is told

    private static void promise37Asked() {
        WeightedLaws w = twoSought();
        Check.law(w, 0, "Ax", SOFT, 2);
        Check.law(w, 1, "Bx|Cy", HARD, 2);
        fill(w, 0, 5, 0);
        w.tell(1, 1);
        w.cost(0);
        due("asked() by cost()", w.asked(), 9);
        w.broken(0, 0);
        w.near(3);
        w.odds(0);
        w.both(0, 4);
        w.given(0, 4);
        w.pull(0, 4);
        w.why(0);
        w.otherwise(0, 1, 4);
        w.act(0, 0);
        w.look(0, 0, 4);
        w.learn(0, 1, 0);
        w.mark(0, 2);
        w.weight(0, 3);
        w.count(0);
        w.digest();
        w.copy(0, 0, 0, 1, 1);
        w.row(1, 3);
        w.names(3);
        due("asked() stays by others", w.asked(), 9);
        w.at(0, 9);
        w.lay(9, 0, 1);
        w.mean(2);
        w.told(7, 0);
        w.cost(-1);
        w.draw(0, 0, 0);
        w.held(0, 12);
        due("asked() stays by refused ones", w.asked(), 9);
        due("no WORLD", w.likeliest(), NONE);
        due("asked() stays by NONE", w.asked(), 9);
    }

    private static void promise38And39Fraction() {
        WeightedLaws w = twoSought();
        w.odds(0);
        due("upper()", w.upper(), 1);
        due("lower()", w.lower(), 2);
        w.odds(28);
        w.given(0, 1);
        w.pull(0, 0);
        w.likeliest();
        w.mean(0);
        due("upper() stays", w.upper(), 1);
        due("lower() stays", w.lower(), 2);
        w.odds(1);
        due("upper() of nought", w.upper(), 0);
        due("lower() of nought", w.lower(), 1);
    }

    private static void promise40Count() {
        WeightedLaws w = new WeightedLaws();
        w.names(4);
        w.tell(0, 3);
        w.tell(27, 3);
        w.tell(1, 1);
        w.tell(2, 2);
        w.tell(3, 2);
        Check.law(w, 0, "Ax", NOTE, 0);
        Check.law(w, 1, "Ax", HARD, 0);
        Check.law(w, 2, "Ax", SOFT, 0);
        Check.law(w, 3, "#1Ax", COUNT, 0);
        Check.law(w, 7, "1Ax", ONCE, 0);
        w.row(0, 0);
        w.row(5, 0);
        w.text(0, 0);
        int[] counts = {4, 2, 3, 5, 2, 2, 2};
        for (int what = 0; what < 7; what++) {
            due("count(" + what + ")", w.count(what), counts[what]);
        }
        due("count(7)", w.count(7), BAD);
        due("count(-1)", w.count(-1), BAD);
    }

    private static void promise41And42Findings() {
        WeightedLaws w = new WeightedLaws();
        w.row(0, 0);
        w.mean(0);
        due("finding() NOUGHT", w.finding(), NOUGHT);
        w.at(0, 0);
        w.at(0, 1);
        due("finding() BEYOND", w.finding(), BEYOND);
        w.row(1, -1);
        w.row(2, -1);
        w.row(3, -1);
        w.tear(5);
        w.row(0, 41);
        w.names(5);
        w.row(0, 2);
        due("finding() stays", w.finding(), NOTHING);
        int[] counts = {1, 2, 0, 1, 3};
        for (int f = 1; f <= 5; f++) {
            due("findings(" + f + ")", w.findings(f), counts[f - 1]);
        }
        due("findings(0)", w.findings(0), BAD);
        due("findings(6)", w.findings(6), BAD);
        due("findings(-1)", w.findings(-1), BAD);
    }

    private static long digestOf(int[]... all) {
        long h = 17;
        for (int[] ints : all) {
            for (int v : ints) {
                h = 31 * h + v;
            }
        }
        return h;
    }

    private static void promise43Digest() {
        int[] sayings = new int[28];
        int[] missing8 = {-1, -1, -1, -1, -1, -1, -1, -1};
        int[] missing6 = {-1, -1, -1, -1, -1, -1};
        int[] missing4 = {-1, -1, -1, -1};
        int[] counts = {3, 0, 0, 0, 0, 0, 0};
        WeightedLaws w = new WeightedLaws();
        due("digest() at first", w.digest(), digestOf(counts, sayings, missing8, missing6, missing4));
        w.names(2);
        w.tell(17, 2);
        w.tell(4, 3);
        sayings[17] = 2;
        sayings[4] = 3;
        Check.law(w, 0, "!Ax|!By", NOTE, 5);
        Check.law(w, 2, "!Ax|!By|Cx", HARD, 5);
        Check.law(w, 3, "!Fxy", SOFT, 5);
        Check.law(w, 4, "#3!Ax", COUNT, 6);
        Check.law(w, 6, "1!Bx", ONCE, 7);
        fill(w, 1, LOW, 7);
        w.row(5, 0);
        w.text(3, 2);
        w.put(3, 1, 200);
        int[] told = {2, 1, 1, 5, 2, 2, 1};
        int[] laws = {0, 2, 4, 0, -1, 1, 3, 4, 2, 2, 1, 4, 5, 3, 1, 1, 3, -1, 4, 1, 1, 4, -1};
        int[] rows = {-1, 2, LOW, 7, -1, -1, -1, 0};
        int[] texts = {-1, -1, -1, 2, 32, -56};
        w.at(1, 1);
        due("digest()", w.digest(), digestOf(told, sayings, laws, rows, texts));
        due("digest() tells nothing by asked()", w.asked(), 7);
    }

    private static void refusedChangesNothing() {
        WeightedLaws w = twoSought();
        Check.law(w, 0, "Ax", HARD, 2);
        fill(w, 0, 5, 0);
        long before = w.digest();
        due("no WORLD", w.odds(0), FINDING);
        w.row(0, -1);
        w.row(0, 41);
        w.lay(0, 2, 1);
        w.tear(1);
        w.copy(0, 0, 0, 1, 2);
        w.text(3, -1);
        w.put(3, 9, 9);
        w.names(0);
        w.tell(3, 1);
        w.law(0, 0, SOFT, 3);
        w.law(0, 3, ONCE, 3);
        w.drop(1);
        w.weight(0, 1);
        w.learn(0, 1, 0);
        w.otherwise(0, 1, 4);
        due("digest() after refusals", w.digest(), before);
        due("asked() after refusals", w.asked(), 0);
        due("upper() after refusals", w.upper(), 0);
        due("lower() after refusals", w.lower(), 1);
    }
}
