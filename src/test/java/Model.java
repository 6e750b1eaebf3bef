import java.math.BigInteger;
import java.util.ArrayList;
import java.util.List;
import java.util.regex.Matcher;
import java.util.regex.Pattern;

/**
 * The document once more, as slow and as plain as can be, to compare the class with: TEXTS are read by
 * regular expressions, each CASE is looked at by itself, SHARES are big numbers.
 */
final class Model {
    static final int BAD = -1, FULL = -2, FINDING = -3, STATE = -4, NONE = -9;
    private static final int NOTHING = 1, BEYOND = 2, UNLIKE = 3, NOUGHT = 4, SIZE = 5;

    private static final class Law {
        String signs;
        int kind;
        int weight;
    }

    private final int[][] rows = new int[6][];
    private final byte[][] texts = new byte[4][];
    private final Law[] laws = new Law[8];
    private final int[] how = new int[28];
    private int names = 3;
    private int asked = 0;
    private BigInteger upper = BigInteger.ZERO;
    private BigInteger lower = BigInteger.ONE;
    private int finding = 0;
    private final int[] findings = new int[6];

    private int found(int f) {
        finding = f;
        findings[f]++;
        return FINDING;
    }

    private static boolean in(int v, int from, int to) {
        return from <= v && v <= to;
    }

    private int fraction(BigInteger up, BigInteger low) {
        BigInteger g = up.gcd(low);
        upper = up.divide(g);
        lower = low.divide(g);
        return 1;
    }

    // ---- 1

    int row(int r, int n) {
        if (!in(r, 0, 5) || n > 40) return BAD;
        if (n < 0) return found(SIZE);
        rows[r] = new int[n];
        return n;
    }

    int lay(int r, int i, int v) {
        if (!in(r, 0, 5)) return BAD;
        if (rows[r] == null) return found(NOTHING);
        if (!in(i, 0, rows[r].length - 1)) return found(BEYOND);
        asked = rows[r][i];
        rows[r][i] = v;
        return 1;
    }

    int at(int r, int i) {
        if (!in(r, 0, 5)) return BAD;
        if (rows[r] == null) return found(NOTHING);
        if (!in(i, 0, rows[r].length - 1)) return found(BEYOND);
        asked = rows[r][i];
        return 1;
    }

    int tear(int r) {
        if (!in(r, 0, 5)) return BAD;
        if (rows[r] == null) return found(NOTHING);
        rows[r] = null;
        return 1;
    }

    int copy(int r, int i, int to, int j, int n) {
        if (!in(r, 0, 5) || !in(to, 0, 5)) return BAD;
        if (n < 0) return found(SIZE);
        if (rows[r] == null || rows[to] == null) return found(NOTHING);
        if (i < 0 || j < 0 || (long) i + n > rows[r].length || (long) j + n > rows[to].length) return found(BEYOND);
        int[] ahead = rows[r].clone();
        for (int p = 0; p < n; p++) rows[to][j + p] = ahead[i + p];
        return 1;
    }

    int mean(int r) {
        if (!in(r, 0, 5)) return BAD;
        if (rows[r] == null) return found(NOTHING);
        if (rows[r].length == 0) return found(NOUGHT);
        BigInteger sum = BigInteger.ZERO;
        for (int v : rows[r]) sum = sum.add(BigInteger.valueOf(v));
        asked = sum.divide(BigInteger.valueOf(rows[r].length)).intValue();
        return 1;
    }

    int text(int t, int n) {
        if (!in(t, 0, 3) || n > 40) return BAD;
        if (n < 0) return found(SIZE);
        texts[t] = " ".repeat(n).getBytes(java.nio.charset.StandardCharsets.ISO_8859_1);
        return n;
    }

    int put(int t, int i, int v) {
        if (!in(t, 0, 3)) return BAD;
        if (texts[t] == null) return found(NOTHING);
        if (!in(i, 0, texts[t].length - 1)) return found(BEYOND);
        int before = texts[t][i];
        texts[t][i] = (byte) v;
        return before + 1000;
    }

    private static int[] namesOf(int s) {
        return s < 12 ? new int[] {s % 4} : new int[] {(s - 12) / 4, (s - 12) % 4};
    }

    private static boolean isThere(int s, int n) {
        for (int x : namesOf(s)) if (x >= n) return false;
        return true;
    }

    int names(int n) {
        if (!in(n, 1, 4)) return BAD;
        for (int s = 0; s < 28; s++) if (how[s] != 0 && !isThere(s, n)) return STATE;
        int before = names;
        names = n;
        return before;
    }

    private List<Integer> sought() {
        List<Integer> all = new ArrayList<>();
        for (int s = 0; s < 28; s++) if (how[s] == 3) all.add(s);
        return all;
    }

    int tell(int s, int to) {
        if (!in(s, 0, 27) || !in(to, 0, 3) || !isThere(s, names)) return BAD;
        if (to == 3 && how[s] != 3 && sought().size() == 10) return FULL;
        int before = how[s];
        how[s] = to;
        return before;
    }

    int how(int s) {
        return in(s, 0, 27) ? how[s] : BAD;
    }

    private static final String PART = "!?(?:[ABC][xy]|F[xy][xy])";
    private static final String PART_OF_X = "!?(?:[ABC]x|Fxx)";
    private static final Pattern PARTS = Pattern.compile(" *" + PART + "(?:\\|" + PART + "){0,5} *");
    private static final Pattern COUNT = Pattern.compile(" *#[1-4]" + PART_OF_X + " *");
    private static final Pattern ONCE = Pattern.compile(" *1" + PART_OF_X + " *");

    private static Pattern form(int kind) {
        return kind == 3 ? COUNT : kind == 4 ? ONCE : PARTS;
    }

    private String signs(int t) {
        return new String(texts[t], java.nio.charset.StandardCharsets.ISO_8859_1);
    }

    private static int faultOf(String signs, int kind) {
        if (form(kind).matcher(signs).matches()) return NONE;
        for (int n = 1; n <= signs.length(); n++) {
            Matcher m = form(kind).matcher(signs.substring(0, n));
            if (!m.matches() && !m.hitEnd()) return n - 1;
        }
        return signs.length();
    }

    int fault(int t, int kind) {
        if (!in(t, 0, 3) || !in(kind, 0, 4)) return BAD;
        if (texts[t] == null) return found(NOTHING);
        return faultOf(signs(t), kind);
    }

    int law(int k, int t, int kind, int weight) {
        if (!in(k, 0, 7) || !in(t, 0, 3) || !in(kind, 0, 4)) return BAD;
        if ((kind == 2 || kind == 3) && !in(weight, 0, 9)) return BAD;
        if (texts[t] == null) return found(NOTHING);
        if (faultOf(signs(t), kind) != NONE) return STATE;
        Law law = new Law();
        law.signs = signs(t).trim();
        law.kind = kind;
        law.weight = weight;
        laws[k] = law;
        return cases(law);
    }

    int drop(int k) {
        if (!in(k, 0, 7)) return BAD;
        if (laws[k] == null) return found(NOTHING);
        laws[k] = null;
        return 1;
    }

    private static boolean soft(Law law) {
        return law.kind == 2 || law.kind == 3;
    }

    private static boolean hard(Law law) {
        return law.kind == 1 || law.kind == 4;
    }

    int weight(int k, int w) {
        if (!in(k, 0, 7) || !in(w, 0, 9)) return BAD;
        if (laws[k] == null) return found(NOTHING);
        if (!soft(laws[k])) return found(UNLIKE);
        int before = laws[k].weight;
        laws[k].weight = w;
        return before;
    }

    private static String[] parts(Law law) {
        String signs = law.signs;
        if (law.kind == 3) signs = signs.substring(2);
        if (law.kind == 4) signs = signs.substring(1);
        return signs.split("\\|");
    }

    private int cases(Law law) {
        if (law.kind >= 3) return 1;
        int n = 1;
        if (law.signs.indexOf('x') >= 0) n *= names;
        if (law.signs.indexOf('y') >= 0) n *= names;
        return n;
    }

    private int toldOf(Law law, int what) {
        return what == 0 ? law.kind : what == 1 ? parts(law).length : cases(law);
    }

    int told(int k, int what) {
        if (!in(k, 0, 7) || !in(what, 0, 2)) return BAD;
        if (laws[k] == null) return found(NOTHING);
        asked = toldOf(laws[k], what);
        return 1;
    }

    private static int markOf(Law law, int kind) {
        switch (kind) {
            case 1: return law.signs.replaceAll("[^!]", "").length();
            case 2: return law.weight;
            case 3: return law.signs.charAt(1) - '0';
            case 4: return saying(parts(law)[0], 0, 0);
            default: return 0;
        }
    }

    int mark(int k, int kind) {
        if (!in(k, 0, 7) || !in(kind, 1, 4)) return BAD;
        if (laws[k] == null) return found(NOTHING);
        boolean is = kind == 1 ? hard(laws[k]) : kind == 2 ? soft(laws[k]) : laws[k].kind == kind;
        return is ? markOf(laws[k], kind) : found(UNLIKE);
    }

    // ---- 2

    int worlds() {
        return (int) Math.round(Math.pow(2, sought().size()));
    }

    private boolean so(int s, int world) {
        if (how[s] == 3) return (world >> sought().indexOf(s)) % 2 == 1;
        return how[s] == 1;
    }

    private boolean[] truth(int world) {
        boolean[] all = new boolean[28];
        List<Integer> open = sought();
        for (int s = 0; s < 28; s++) all[s] = how[s] == 1;
        for (int i = 0; i < open.size(); i++) all[open.get(i)] = (world >> i) % 2 == 1;
        return all;
    }

    private static int saying(String part, int x, int y) {
        String p = part.replace("!", "");
        int first = p.charAt(1) == 'x' ? x : y;
        if (p.charAt(0) != 'F') return 4 * (p.charAt(0) - 'A') + first;
        return 12 + 4 * first + (p.charAt(2) == 'x' ? x : y);
    }

    private static boolean holds(String part, boolean[] truth, int x, int y) {
        return truth[saying(part, x, y)] != part.startsWith("!");
    }

    private int breaks(Law law, boolean[] truth) {
        if (law.kind == 0) return 0;
        String[] parts = parts(law);
        if (law.kind >= 3) {
            int n = 0;
            for (int x = 0; x < names; x++) if (holds(parts[0], truth, x, x)) n++;
            boolean kept = law.kind == 3 ? n >= law.signs.charAt(1) - '0' : n == 1;
            return kept ? 0 : 1;
        }
        int broken = 0;
        int xs = law.signs.indexOf('x') >= 0 ? names : 1;
        int ys = law.signs.indexOf('y') >= 0 ? names : 1;
        for (int x = 0; x < xs; x++) {
            for (int y = 0; y < ys; y++) {
                boolean any = false;
                for (String part : parts) any |= holds(part, truth, x, y);
                if (!any) broken++;
            }
        }
        return broken;
    }

    /** Of each WORLD its COST, or -1: BARRED. */
    private int[] costs(int without) {
        int[] all = new int[worlds()];
        for (int w = 0; w < all.length; w++) {
            boolean[] truth = truth(w);
            boolean barred = false;
            for (int k = 0; k < 8; k++) {
                if (laws[k] == null || (without >> k & 1) == 1) continue;
                int n = breaks(laws[k], truth);
                if (soft(laws[k])) all[w] += n * laws[k].weight;
                if (hard(laws[k]) && n > 0) barred = true;
            }
            if (barred) all[w] = -1;
        }
        return all;
    }

    private static int best(int[] costs) {
        int best = -1;
        for (int w = 0; w < costs.length; w++) {
            if (costs[w] >= 0 && (best < 0 || costs[w] < costs[best])) best = w;
        }
        return best;
    }

    private static BigInteger[] shares(int[] costs) {
        int best = best(costs);
        BigInteger[] all = new BigInteger[costs.length];
        for (int w = 0; w < all.length; w++) {
            boolean none = costs[w] < 0 || costs[w] - costs[best] > 20;
            all[w] = none ? BigInteger.ZERO : BigInteger.TWO.pow(20 - (costs[w] - costs[best]));
        }
        return all;
    }

    /** SHARES of WORLDS in which all these SAYINGS are so. */
    private BigInteger part(BigInteger[] shares, int... sayings) {
        BigInteger sum = BigInteger.ZERO;
        for (int w = 0; w < shares.length; w++) {
            boolean all = true;
            for (int s : sayings) all &= so(s, w);
            if (all) sum = sum.add(shares[w]);
        }
        return sum;
    }

    int cost(int world) {
        if (!in(world, 0, worlds() - 1)) return BAD;
        int sum = 0;
        int hards = 0;
        for (Law law : laws) {
            if (law == null) continue;
            if (soft(law)) sum += law.weight * breaks(law, truth(world));
            if (hard(law)) hards += breaks(law, truth(world));
        }
        asked = hards;
        return sum;
    }

    int broken(int k, int world) {
        if (!in(k, 0, 7) || !in(world, 0, worlds() - 1)) return BAD;
        if (laws[k] == null) return found(NOTHING);
        return breaks(laws[k], truth(world));
    }

    int likeliest() {
        int[] costs = costs(0);
        int best = best(costs);
        if (best < 0) return NONE;
        asked = costs[best];
        return best;
    }

    int near(int d) {
        if (!in(d, 0, 999)) return BAD;
        int[] costs = costs(0);
        int best = best(costs);
        int n = 0;
        for (int c : costs) if (c >= 0 && c <= costs[best] + d) n++;
        return n;
    }

    private int share(BigInteger up, BigInteger low) {
        return low.signum() == 0 ? found(NOUGHT) : fraction(up, low);
    }

    int odds(int s) {
        if (!in(s, 0, 27)) return BAD;
        BigInteger[] shares = shares(costs(0));
        return share(part(shares, s), part(shares));
    }

    int both(int one, int other) {
        if (!in(one, 0, 27) || !in(other, 0, 27)) return BAD;
        BigInteger[] shares = shares(costs(0));
        return share(part(shares, one, other), part(shares));
    }

    int given(int one, int other) {
        if (!in(one, 0, 27) || !in(other, 0, 27)) return BAD;
        BigInteger[] shares = shares(costs(0));
        return share(part(shares, one, other), part(shares, other));
    }

    int alike(int x, int y) {
        if (!in(x, 0, names - 1) || !in(y, 0, names - 1)) return BAD;
        int[] other = {0, 1, 2, 3};
        other[x] = y;
        other[y] = x;
        for (int a = 0; a < 4; a++) {
            for (int letter = 0; letter < 3; letter++) {
                if (how[4 * letter + a] != how[4 * letter + other[a]]) return 0;
            }
            for (int b = 0; b < 4; b++) {
                if (how[12 + 4 * a + b] != how[12 + 4 * other[a] + other[b]]) return 0;
            }
        }
        return 1;
    }

    int draw(int l, int n, int s) {
        if (!in(n, 1, 200) || !in(s, 0, 27)) return BAD;
        BigInteger[] shares = shares(costs(0));
        BigInteger all = part(shares);
        if (all.signum() == 0) return found(NOUGHT);
        int so = 0;
        int world = -1;
        for (int i = 0; i < n; i++) {
            l = l * 1103515245 + 12345;
            int v = (l >> 16 & 0x7fff) * 32768;
            l = l * 1103515245 + 12345;
            v += l >> 16 & 0x7fff;
            BigInteger limit = BigInteger.valueOf(v).multiply(all).shiftRight(30);
            BigInteger sum = BigInteger.ZERO;
            for (world = 0; world < shares.length; world++) {
                sum = sum.add(shares[world]);
                if (sum.compareTo(limit) > 0) break;
            }
            if (so(s, world)) so++;
        }
        asked = world;
        return so;
    }

    // ---- 3

    int learn(int world, int bits, int price) {
        if (!in(world, 0, worlds() - 1) || !in(bits, 1, 255) || Integer.bitCount(bits) > 3 || !in(price, 0, 2)) {
            return BAD;
        }
        List<Law> told = new ArrayList<>();
        for (int k = 0; k < 8; k++) if ((bits >> k & 1) == 1) told.add(laws[k]);
        for (Law law : told) if (law == null) return found(NOTHING);
        for (Law law : told) if (!soft(law)) return found(UNLIKE);
        int[] costs = costs(0);
        if (best(costs) < 0) return found(NOUGHT);
        if (costs[world] < 0) return STATE;
        int[] best = null;
        BigInteger bestUp = null;
        BigInteger bestLow = null;
        for (int sum = 0; sum <= 9; sum++) {
            for (int figures = 0; figures < 1000; figures++) {
                int[] weights = weights(figures, told.size());
                if (weights == null || weights[0] + weights[1] + weights[2] != sum) continue;
                for (int i = 0; i < told.size(); i++) told.get(i).weight = weights[i];
                BigInteger[] shares = shares(costs(0));
                BigInteger up = shares[world];
                BigInteger low = part(shares).multiply(BigInteger.TWO.pow(price * sum));
                if (best == null || up.multiply(bestLow).compareTo(bestUp.multiply(low)) > 0) {
                    best = weights;
                    bestUp = up;
                    bestLow = low;
                }
            }
        }
        int answer = 0;
        for (int i = 0; i < told.size(); i++) {
            told.get(i).weight = best[i];
            answer = 10 * answer + best[i];
        }
        BigInteger[] shares = shares(costs(0));
        fraction(shares[world], part(shares));
        return answer;
    }

    /** Three WEIGHTS told by figures, the unused ones 0; null: these figures tell none. */
    private static int[] weights(int figures, int n) {
        int[] all = new int[3];
        int rest = figures;
        for (int i = n - 1; i >= 0; i--) {
            all[i] = rest % 10;
            rest /= 10;
            if (all[i] > 3) return null;
        }
        return rest == 0 ? all : null;
    }

    int pull(int k, int s) {
        if (!in(k, 0, 7) || !in(s, 0, 27)) return BAD;
        if (laws[k] == null) return found(NOTHING);
        BigInteger[] with = shares(costs(0));
        BigInteger[] without = shares(costs(1 << k));
        BigInteger all = part(with);
        BigInteger allWithout = part(without);
        if (all.signum() == 0 || allWithout.signum() == 0) return found(NOUGHT);
        BigInteger up = part(with, s).multiply(allWithout).subtract(part(without, s).multiply(all));
        return fraction(up, all.multiply(allWithout));
    }

    int why(int s) {
        if (!in(s, 0, 27)) return BAD;
        if (best(costs(0)) < 0) return found(NOUGHT);
        int best = NONE;
        for (int bits = 0; bits < 256; bits++) {
            boolean there = true;
            for (int k = 0; k < 8; k++) if ((bits >> k & 1) == 1 && laws[k] == null) there = false;
            if (!there || best != NONE && Integer.bitCount(bits) >= Integer.bitCount(best)) continue;
            BigInteger[] shares = shares(costs(bits));
            if (part(shares, s).shiftLeft(1).compareTo(part(shares)) <= 0) best = bits;
        }
        return best;
    }

    int otherwise(int s, int to, int other) {
        if (!in(s, 0, 27) || !in(to, 0, 3) || !in(other, 0, 27) || !isThere(s, names)) return BAD;
        if (to == 3 && how[s] != 3 && sought().size() == 10) return FULL;
        int before = how[s];
        how[s] = to;
        BigInteger[] shares = shares(costs(0));
        BigInteger up = part(shares, other);
        how[s] = before;
        return share(up, part(shares));
    }

    private int worths(int r) {
        if (rows[r] == null) return NOTHING;
        if (rows[r].length == 0 || rows[r].length % 2 == 1) return SIZE;
        for (int v : rows[r]) if (!in(v, -99, 99)) return UNLIKE;
        return 0;
    }

    private static BigInteger worth(int so, int not, BigInteger yes, BigInteger no) {
        return yes.multiply(BigInteger.valueOf(so)).add(no.multiply(BigInteger.valueOf(not)));
    }

    private int bestAct(int r, BigInteger yes, BigInteger no) {
        int best = 0;
        for (int i = 0; i < rows[r].length; i += 2) {
            BigInteger at = worth(rows[r][i], rows[r][i + 1], yes, no);
            if (at.compareTo(worth(rows[r][2 * best], rows[r][2 * best + 1], yes, no)) > 0) best = i / 2;
        }
        return best;
    }

    private BigInteger bestWorth(int r, BigInteger yes, BigInteger no) {
        int best = bestAct(r, yes, no);
        return worth(rows[r][2 * best], rows[r][2 * best + 1], yes, no);
    }

    int act(int s, int r) {
        if (!in(s, 0, 27) || !in(r, 0, 5)) return BAD;
        if (worths(r) != 0) return found(worths(r));
        BigInteger[] shares = shares(costs(0));
        BigInteger all = part(shares);
        if (all.signum() == 0) return found(NOUGHT);
        BigInteger yes = part(shares, s);
        fraction(bestWorth(r, yes, all.subtract(yes)), all);
        return bestAct(r, yes, all.subtract(yes));
    }

    int look(int s, int r, int other) {
        if (!in(s, 0, 27) || !in(r, 0, 5) || !in(other, 0, 27)) return BAD;
        if (worths(r) != 0) return found(worths(r));
        BigInteger[] shares = shares(costs(0));
        BigInteger all = part(shares);
        if (all.signum() == 0) return found(NOUGHT);
        BigInteger[] of = {BigInteger.ZERO, BigInteger.ZERO, BigInteger.ZERO, BigInteger.ZERO};
        for (int w = 0; w < shares.length; w++) {
            int i = (so(other, w) ? 2 : 0) + (so(s, w) ? 1 : 0);
            of[i] = of[i].add(shares[w]);
        }
        BigInteger seen = bestWorth(r, of[3], of[2]).add(bestWorth(r, of[1], of[0]));
        return fraction(seen.subtract(bestWorth(r, of[1].add(of[3]), of[0].add(of[2]))), all);
    }

    private long leastCost() {
        int[] costs = costs(0);
        return best(costs) < 0 ? Long.MAX_VALUE : costs[best(costs)];
    }

    int wrong() {
        long now = leastCost();
        long most = 0;
        int wrong = NONE;
        for (int s = 0; s < 28; s++) {
            if (how[s] != 1 && how[s] != 2) continue;
            how[s] = 3 - how[s];
            long then = leastCost();
            how[s] = 3 - how[s];
            if (then == Long.MAX_VALUE) continue;
            long fall = now == Long.MAX_VALUE ? 1000 : now - then;
            if (fall > most) {
                most = fall;
                wrong = s;
            }
        }
        if (wrong != NONE) asked = (int) most;
        return wrong;
    }

    int held(int r, int tenth) {
        if (!in(r, 0, 5) || !in(tenth, 0, 10)) return BAD;
        if (rows[r] == null) return found(NOTHING);
        if (rows[r].length % 2 == 1) return found(SIZE);
        for (int i = 0; i < rows[r].length; i += 2) {
            if (!in(rows[r][i], 0, 10) || !in(rows[r][i + 1], 0, 1)) return found(UNLIKE);
        }
        int so = 0;
        int all = 0;
        for (int i = 0; i < rows[r].length; i += 2) {
            if (rows[r][i] != tenth) continue;
            all++;
            if (rows[r][i + 1] == 1) so++;
        }
        asked = all;
        return so;
    }

    // ---- 4

    int asked() {
        return asked;
    }

    long upper() {
        return upper.longValueExact();
    }

    long lower() {
        return lower.longValueExact();
    }

    int count(int what) {
        int seen = 0;
        for (int h : how) if (h == 1 || h == 2) seen++;
        int there = 0;
        int hards = 0;
        for (Law law : laws) {
            if (law != null) there++;
            if (law != null && hard(law)) hards++;
        }
        int rowsThere = 0;
        for (int[] row : rows) if (row != null) rowsThere++;
        int textsThere = 0;
        for (byte[] text : texts) if (text != null) textsThere++;
        int[] all = {names, sought().size(), seen, there, hards, rowsThere, textsThere};
        return in(what, 0, 6) ? all[what] : BAD;
    }

    int finding() {
        return finding;
    }

    int findings(int f) {
        return in(f, 1, 5) ? findings[f] : BAD;
    }

    long digest() {
        List<Integer> all = new ArrayList<>();
        for (int what = 0; what < 7; what++) all.add(count(what));
        for (int h : how) all.add(h);
        for (Law law : laws) {
            if (law == null) {
                all.add(-1);
                continue;
            }
            for (int what = 0; what < 3; what++) all.add(toldOf(law, what));
            all.add(markOf(law, law.kind));
        }
        for (int[] row : rows) {
            all.add(row == null ? -1 : row.length);
            if (row != null) for (int v : row) all.add(v);
        }
        for (byte[] text : texts) {
            all.add(text == null ? -1 : text.length);
            if (text != null) for (byte v : text) all.add((int) v);
        }
        long h = 17;
        for (int v : all) h = 31 * h + v;
        return h;
    }
}
