import java.util.Random;

/** Long runs of calls, made up by numbered seeds, answered by the class and by the model alike. */
public final class ModelTest {
    private static final int RUNS = 1500;
    private static final int CALLS = 512;
    /** Runs with ten SOUGHT SAYINGS and many LAWS are slow in the model: few of them. */
    private static final int WIDE_RUNS = 12;

    private final Check check;
    private final Random random;
    private final String run;
    private final WeightedLaws w = new WeightedLaws();
    private final Model m = new Model();
    private int left = CALLS;
    /** One LAW in so many is HARD: with many of these all WORLDS are soon BARRED. */
    private final int hardIn;

    private ModelTest(Check check, int seed) {
        this.check = check;
        this.random = new Random(seed);
        this.run = "run " + seed + ": ";
        this.hardIn = new int[] {12, 3, 30}[seed % 3];
    }

    public static void main(String[] args) {
        Check check = new Check();
        for (int seed = 0; seed < RUNS && !check.hasWrong(); seed++) {
            new ModelTest(check, seed).play(seed % 4);
        }
        for (int seed = RUNS; seed < RUNS + WIDE_RUNS && !check.hasWrong(); seed++) {
            new ModelTest(check, seed).playWide();
        }
        check.end();
    }

    private int below(int n) {
        return random.nextInt(n);
    }

    /** Mostly 0 .. n - 1, now and then a number beside it, or far off. */
    private int about(int n) {
        switch (below(40)) {
            case 0: return -1;
            case 1: return n;
            case 2: return below(2) == 0 ? Integer.MIN_VALUE : Integer.MAX_VALUE;
            default: return below(n);
        }
    }

    private boolean goesOn() {
        return left > 0 && !check.hasWrong();
    }

    private void same(String call, long got, long want) {
        left--;
        check.due(run + call, got, want);
        check.due(run + call + " asked()", w.asked(), m.asked());
        check.due(run + call + " upper()", w.upper(), m.upper());
        check.due(run + call + " lower()", w.lower(), m.lower());
        check.due(run + call + " finding()", w.finding(), m.finding());
        for (int f = 0; f <= 6; f++) {
            check.due(run + call + " findings(" + f + ")", w.findings(f), m.findings(f));
        }
        check.due(run + call + " digest()", w.digest(), m.digest());
    }

    private void play(int style) {
        int mostSought = new int[] {3, 5, 2, 7}[style];
        settle(mostSought);
        while (goesOn()) {
            int what = below(100);
            if (what < 8) {
                playRows();
            } else if (what < 16) {
                playLaw();
            } else if (what < 30) {
                playSayings(mostSought);
            } else if (what < 40) {
                playLawCalls();
            } else if (what < 50) {
                playWorths();
            } else if (what < 80) {
                playWorlds();
            } else {
                playWhys();
            }
        }
    }

    private void settle(int mostSought) {
        int names = 1 + below(4);
        same("names(" + names + ")", w.names(names), m.names(names));
        for (int i = 0; i < 12 && goesOn(); i++) {
            playSayings(mostSought);
        }
        for (int i = 0; i < 4 && goesOn(); i++) {
            playLaw();
        }
    }

    private void playWide() {
        same("names(4)", w.names(4), m.names(4));
        while (m.count(1) < 10) {
            int s = below(28);
            int how = below(4) == 0 ? 1 + below(2) : 3;
            same("tell(" + s + ", " + how + ")", w.tell(s, how), m.tell(s, how));
        }
        for (int s = 0; s < 28; s++) {
            same("tell(" + s + ", 3)", w.tell(s, 3), m.tell(s, 3));
            same("otherwise(" + s + ", 3, 0)", w.otherwise(s, 3, 0), m.otherwise(s, 3, 0));
        }
        for (int i = 0; i < 8 && goesOn(); i++) {
            playLaw();
        }
        for (int i = 0; i < 40 && goesOn(); i++) {
            playWorlds();
        }
        same("wrong()", w.wrong(), m.wrong());
        int bits = softBits() & 255;
        int one = Integer.highestOneBit(bits);
        same("learn(1000, " + one + ", 1)", w.learn(1000, one, 1), m.learn(1000, one, 1));
    }

    private void playRows() {
        int r = about(6);
        int i = about(6);
        int v = random.nextInt();
        switch (below(6)) {
            case 0:
                int n = below(10) == 0 ? 38 + below(5) : about(8);
                same("row(" + r + ", " + n + ")", w.row(r, n), m.row(r, n));
                break;
            case 1:
                same("lay(" + r + ", " + i + ", " + v + ")", w.lay(r, i, v), m.lay(r, i, v));
                break;
            case 2:
                same("at(" + r + ", " + i + ")", w.at(r, i), m.at(r, i));
                break;
            case 3:
                same("tear(" + r + ")", w.tear(r), m.tear(r));
                break;
            case 4:
                int to = below(3) == 0 ? r : about(6);
                int j = about(5);
                int k = about(5);
                String call = "copy(" + r + ", " + i + ", " + to + ", " + j + ", " + k + ")";
                same(call, w.copy(r, i, to, j, k), m.copy(r, i, to, j, k));
                break;
            default:
                same("mean(" + r + ")", w.mean(r), m.mean(r));
        }
    }

    private void playText(int t, String signs) {
        int n = signs.length();
        same("text(" + t + ", " + n + ")", w.text(t, n), m.text(t, n));
        for (int i = 0; i < n && goesOn(); i++) {
            if (signs.charAt(i) != ' ') {
                int v = signs.charAt(i) + 256 * (below(3) - 1);
                same("put(" + t + ", " + i + ", " + v + ")", w.put(t, i, v), m.put(t, i, v));
            }
        }
    }

    private String part(boolean alone) {
        String variables = alone ? "x" : "xy";
        String one = "" + variables.charAt(below(variables.length()));
        String other = "" + variables.charAt(below(variables.length()));
        String denial = below(3) == 0 ? "!" : "";
        return denial + (below(4) == 0 ? "F" + one + other : "ABC".charAt(below(3)) + one);
    }

    private String signs(int kind) {
        StringBuilder all = new StringBuilder(" ".repeat(below(4) / 3));
        if (kind == 3) {
            all.append('#').append((char) ('1' + below(4)));
        }
        if (kind == 4) {
            all.append('1');
        }
        int parts = kind >= 3 ? 1 : 1 + below(below(3) + 1) + 5 * (below(20) / 19);
        for (int p = 0; p < parts; p++) {
            all.append(p == 0 ? "" : "|").append(part(kind >= 3));
        }
        all.append(" ".repeat(below(4) / 3));
        if (below(4) == 0) {
            spoil(all);
        }
        return all.length() > 40 ? all.substring(0, 40) : all.toString();
    }

    private void spoil(StringBuilder all) {
        int i = below(all.length());
        switch (below(3)) {
            case 0:
                all.deleteCharAt(i);
                break;
            case 1:
                all.insert(i, " !|#1245ABCDFxyzXG\u0080\u00ff".charAt(below(20)));
                break;
            default:
                all.setLength(i);
        }
    }

    private void playLaw() {
        int t = below(4);
        int kind = below(hardIn) == 0 ? 1 + 3 * below(2) : new int[] {0, 2, 2, 2, 2, 3, 3}[below(7)];
        playText(t, signs(kind));
        if (below(6) == 0) {
            kind = about(5);
        }
        int told = below(30) == 0 ? about(4) : t;
        int k = about(8);
        int weight = below(3) == 0 ? about(10) : below(4);
        same("fault(" + told + ", " + kind + ")", w.fault(told, kind), m.fault(told, kind));
        String call = "law(" + k + ", " + told + ", " + kind + ", " + weight + ")";
        same(call, w.law(k, told, kind, weight), m.law(k, told, kind, weight));
    }

    private void playSayings(int mostSought) {
        int s = about(28);
        int how = about(4);
        switch (below(12)) {
            case 0:
                int n = about(5);
                same("names(" + n + ")", w.names(n), m.names(n));
                break;
            case 1:
                same("how(" + s + ")", w.how(s), m.how(s));
                break;
            case 2:
                int x = about(4);
                int y = about(4);
                same("alike(" + x + ", " + y + ")", w.alike(x, y), m.alike(x, y));
                break;
            default:
                boolean enough = how == 3 && m.count(1) >= mostSought && below(60) != 0;
                int to = enough ? below(3) : how;
                same("tell(" + s + ", " + to + ")", w.tell(s, to), m.tell(s, to));
        }
    }

    private void playLawCalls() {
        int k = about(8);
        int kind = about(5);
        switch (below(6)) {
            case 0:
                same("drop(" + k + ")", w.drop(k), m.drop(k));
                break;
            case 1:
                int v = about(10);
                same("weight(" + k + ", " + v + ")", w.weight(k, v), m.weight(k, v));
                break;
            case 2:
                int what = about(3);
                same("told(" + k + ", " + what + ")", w.told(k, what), m.told(k, what));
                break;
            case 3:
                same("mark(" + k + ", " + kind + ")", w.mark(k, kind), m.mark(k, kind));
                break;
            case 4:
                int counted = about(7);
                same("count(" + counted + ")", w.count(counted), m.count(counted));
                break;
            default:
                int world = about(m.worlds());
                same("broken(" + k + ", " + world + ")", w.broken(k, world), m.broken(k, world));
        }
    }

    /** Fills a ROW with pairs that act(), look() or held() take, or nearly so. */
    private void playWorths() {
        int r = below(6);
        int n = 2 * below(4) + below(10) / 9;
        boolean tenths = below(2) == 0;
        same("row(" + r + ", " + n + ")", w.row(r, n), m.row(r, n));
        for (int i = 0; i < n && goesOn(); i++) {
            int v = tenths ? (i % 2 == 0 ? below(11) : below(2)) : below(199) - 99;
            if (below(40) == 0) {
                v = tenths ? 11 - 12 * below(2) : 100 - 200 * below(2);
            }
            same("lay(" + r + ", " + i + ", " + v + ")", w.lay(r, i, v), m.lay(r, i, v));
        }
        int told = about(6) == r || below(4) != 0 ? r : about(6);
        int s = about(28);
        int other = about(28);
        same("act(" + s + ", " + told + ")", w.act(s, told), m.act(s, told));
        same("look(" + s + ", " + told + ", " + other + ")", w.look(s, told, other), m.look(s, told, other));
        for (int i = 0; i < 3; i++) {
            int tenth = about(11);
            same("held(" + told + ", " + tenth + ")", w.held(told, tenth), m.held(told, tenth));
        }
    }

    /** A SAYING, more often one that is SOUGHT or SEEN. */
    private int anySaying() {
        if (below(12) == 0) {
            return about(28);
        }
        int s = below(28);
        for (int i = 0; i < 12 && m.how(s) == 0; i++) {
            s = below(28);
        }
        return s;
    }

    private void playWorlds() {
        int one = anySaying();
        int other = anySaying();
        int world = about(m.worlds());
        switch (below(8)) {
            case 0:
                same("worlds()", w.worlds(), m.worlds());
                break;
            case 1:
                same("cost(" + world + ")", w.cost(world), m.cost(world));
                break;
            case 2:
                same("likeliest()", w.likeliest(), m.likeliest());
                break;
            case 3:
                int d = below(3) == 0 ? about(1000) : below(12);
                same("near(" + d + ")", w.near(d), m.near(d));
                break;
            case 4:
                same("odds(" + one + ")", w.odds(one), m.odds(one));
                break;
            case 5:
                same("both(" + one + ", " + other + ")", w.both(one, other), m.both(one, other));
                break;
            case 6:
                same("given(" + one + ", " + other + ")", w.given(one, other), m.given(one, other));
                break;
            default:
                int l = random.nextInt();
                int n = below(4) == 0 ? about(201) : 1 + below(20);
                same("draw(" + l + ", " + n + ", " + one + ")", w.draw(l, n, one), m.draw(l, n, one));
        }
    }

    private void playWhys() {
        int s = anySaying();
        int k = about(8);
        switch (below(13)) {
            case 0:
            case 12:
                int best = m.likeliest();
                w.likeliest();
                int world = below(3) == 0 || best < 0 ? about(m.worlds()) : best;
                int bits = below(10) == 0 ? about(256) : softBits();
                int price = about(3);
                String call = "learn(" + world + ", " + bits + ", " + price + ")";
                same(call, w.learn(world, bits, price), m.learn(world, bits, price));
                break;
            case 1:
            case 2:
                same("why(" + s + ")", w.why(s), m.why(s));
                break;
            case 3:
            case 4:
            case 5:
                int how = about(4);
                int to = how == 3 && m.count(1) > 7 && below(8) != 0 ? 2 : how;
                int other = anySaying();
                String what = "otherwise(" + s + ", " + to + ", " + other + ")";
                same(what, w.otherwise(s, to, other), m.otherwise(s, to, other));
                break;
            case 6:
            case 7:
                same("wrong()", w.wrong(), m.wrong());
                break;
            default:
                same("pull(" + k + ", " + s + ")", w.pull(k, s), m.pull(k, s));
        }
    }

    /** Some of the SOFT LAWS that are there. */
    private int softBits() {
        int bits = 0;
        for (int k = 0; k < 8; k++) {
            boolean soft = m.told(k, 0) == 1 && (m.asked() == 2 || m.asked() == 3);
            w.told(k, 0);
            if (soft && Integer.bitCount(bits) < 3 && below(2) == 0) {
                bits |= 1 << k;
            }
        }
        return bits;
    }
}
