import java.util.Arrays;

/**
 * Rules with weights: what is likely so of a few names, told by soft laws and hard ones.
 * The words in capitals are those of the document.
 */
public final class WeightedLaws {
    public static final int BAD = -1, FULL = -2, FINDING = -3, STATE = -4, NONE = -9;

    private static final int NOTHING = 1, BEYOND = 2, UNLIKE = 3, NOUGHT = 4, SIZE = 5;
    private static final int NO_FINDING = 0;

    private static final int ROWS = 6, TEXTS = 4, MOST_PLACES = 40, MISSING = -1;
    private static final int BLANK = 32;

    private static final int SAYINGS = 28, FIRST_OF_TWO = 12, MOST_NAMES = 4;
    private static final int BY_DEFAULT = 0, SEEN_SO = 1, SEEN_NOT_SO = 2, SOUGHT = 3;
    private static final int MOST_SOUGHT = 10, MOST_WORLDS = 1024;

    private static final int LAWS = 8, ALL_LAWS = 255, MOST_PARTS = 6, MOST_WEIGHT = 9;
    private static final int NOTE = 0, HARD = 1, SOFT = 2, COUNT = 3, ONCE = 4;

    private static final int MOST_NEAR = 999, MOST_DRAWN = 200, MOST_WORTH = 99, MOST_TENTHS = 10;
    private static final int MOST_LEARNED = 3, MOST_PRICE = 2, FALL_FROM_NO_WORLD = 1000;

    /** What a BARRED WORLD is held to cost: above any COST, so that it is never the least. */
    private static final int BARRED = 1000000;
    private static final int SHARE_POWER = 20, NO_SHARE = -1000;

    private final Shelf rows = new Shelf(ROWS);
    private final Shelf texts = new Shelf(TEXTS);
    private final int[] tellings = new int[SAYINGS];
    private final Law[] lawSlots = new Law[LAWS];
    private final Worlds table = new Worlds();
    private final int[] findingCounts = new int[SIZE + 1];

    /** A TEXT is read into this one first, so that a FAULT leaves the LAWS as they were. */
    private Law draft = new Law();
    private int nameCount = 3;
    /** Whether SAYINGS, NAMES or LAWS have changed since the table of WORLDS was made. */
    private boolean stale = true;
    private int askedNumber = 0;
    private long upperNumber = 0;
    private long lowerNumber = 1;
    private int latestFinding = NO_FINDING;

    public WeightedLaws() {
        for (int k = 0; k < LAWS; k++) {
            lawSlots[k] = new Law();
        }
    }

    // ---- 1 rows, texts, sayings, laws

    public int row(int r, int n) {
        return makeOn(rows, r, n, 0);
    }

    public int lay(int r, int i, int v) {
        int refusal = refusalOfPlace(rows, r, i);
        if (refusal != 0) {
            return refusal;
        }
        askedNumber = rows.placeOf(r, i);
        rows.change(r, i, v);
        return 1;
    }

    public int at(int r, int i) {
        int refusal = refusalOfPlace(rows, r, i);
        if (refusal != 0) {
            return refusal;
        }
        askedNumber = rows.placeOf(r, i);
        return 1;
    }

    public int tear(int r) {
        if (!rows.isNumber(r)) {
            return BAD;
        }
        if (!rows.has(r)) {
            return found(NOTHING);
        }
        rows.remove(r);
        return 1;
    }

    public int copy(int r, int i, int to, int j, int n) {
        if (!rows.isNumber(r) || !rows.isNumber(to)) {
            return BAD;
        }
        if (n < 0) {
            return found(SIZE);
        }
        if (!rows.has(r) || !rows.has(to)) {
            return found(NOTHING);
        }
        if (!rows.hasPlaces(r, i, n) || !rows.hasPlaces(to, j, n)) {
            return found(BEYOND);
        }
        rows.move(r, i, to, j, n);
        return 1;
    }

    public int mean(int r) {
        if (!rows.isNumber(r)) {
            return BAD;
        }
        if (!rows.has(r)) {
            return found(NOTHING);
        }
        int size = rows.sizeOf(r);
        if (size <= 0) {
            return found(NOUGHT);
        }
        askedNumber = (int) (rows.sumOf(r) / size);
        return 1;
    }

    public int text(int t, int n) {
        return makeOn(texts, t, n, BLANK);
    }

    public int put(int t, int i, int v) {
        int refusal = refusalOfPlace(texts, t, i);
        if (refusal != 0) {
            return refusal;
        }
        int before = texts.placeOf(t, i);
        texts.change(t, i, (byte) v);
        return before + 1000;
    }

    public int names(int n) {
        if (n < 1 || n > MOST_NAMES) {
            return BAD;
        }
        for (int s = 0; s < SAYINGS; s++) {
            if (tellings[s] != BY_DEFAULT && !isOfNames(s, n)) {
                return STATE;
            }
        }
        int before = nameCount;
        nameCount = n;
        stale = true;
        return before;
    }

    public int tell(int saying, int how) {
        if (!isSaying(saying) || !isTelling(how) || !isOfNames(saying, nameCount)) {
            return BAD;
        }
        if (wouldSeekTooMany(saying, how)) {
            return FULL;
        }
        int before = tellings[saying];
        tellings[saying] = how;
        stale = true;
        return before;
    }

    public int how(int saying) {
        return isSaying(saying) ? tellings[saying] : BAD;
    }

    public int fault(int t, int kind) {
        if (!texts.isNumber(t) || !isKind(kind)) {
            return BAD;
        }
        if (!texts.has(t)) {
            return found(NOTHING);
        }
        return draft.read(texts, t, kind);
    }

    public int law(int k, int t, int kind, int weight) {
        if (!isLaw(k) || !texts.isNumber(t) || !isKind(kind)) {
            return BAD;
        }
        if (isSoft(kind) && !isWeight(weight)) {
            return BAD;
        }
        if (!texts.has(t)) {
            return found(NOTHING);
        }
        if (draft.read(texts, t, kind) != NONE) {
            return STATE;
        }
        Law before = lawSlots[k];
        lawSlots[k] = draft;
        draft = before;
        lawSlots[k].there = true;
        lawSlots[k].weight = isSoft(kind) ? weight : 0;
        stale = true;
        return lawSlots[k].caseCount(nameCount);
    }

    public int drop(int k) {
        if (!isLaw(k)) {
            return BAD;
        }
        if (!lawSlots[k].there) {
            return found(NOTHING);
        }
        lawSlots[k].there = false;
        stale = true;
        return 1;
    }

    public int weight(int k, int w) {
        if (!isLaw(k) || !isWeight(w)) {
            return BAD;
        }
        if (!lawSlots[k].there) {
            return found(NOTHING);
        }
        if (!isSoft(lawSlots[k].kind)) {
            return found(UNLIKE);
        }
        int before = lawSlots[k].weight;
        lawSlots[k].weight = w;
        return before;
    }

    public int told(int k, int what) {
        if (!isLaw(k) || what < 0 || what > 2) {
            return BAD;
        }
        if (!lawSlots[k].there) {
            return found(NOTHING);
        }
        askedNumber = toldOf(lawSlots[k], what);
        return 1;
    }

    public int mark(int k, int kind) {
        if (!isLaw(k) || !isKind(kind) || kind == NOTE) {
            return BAD;
        }
        if (!lawSlots[k].there) {
            return found(NOTHING);
        }
        if (!isOfKind(lawSlots[k], kind)) {
            return found(UNLIKE);
        }
        return markOf(lawSlots[k], kind);
    }

    // ---- 2 worlds, odds

    public int worlds() {
        return 1 << countTold(SOUGHT, SOUGHT);
    }

    public int cost(int world) {
        if (!isWorld(world)) {
            return BAD;
        }
        survey(0);
        askedNumber = table.hardBreaks(world, lawSlots);
        return table.softCost(world);
    }

    public int broken(int k, int world) {
        if (!isLaw(k) || !isWorld(world)) {
            return BAD;
        }
        if (!lawSlots[k].there) {
            return found(NOTHING);
        }
        survey(0);
        return table.breaksOf(k, world);
    }

    public int likeliest() {
        survey(0);
        if (table.isEmpty()) {
            return NONE;
        }
        askedNumber = table.leastCost;
        return table.best;
    }

    public int near(int d) {
        if (d < 0 || d > MOST_NEAR) {
            return BAD;
        }
        survey(0);
        return table.countWithin(d);
    }

    public int odds(int saying) {
        if (!isSaying(saying)) {
            return BAD;
        }
        survey(0);
        return tellShare(table.sharesOf(1 << saying), table.allShares);
    }

    public int both(int one, int other) {
        if (!isSaying(one) || !isSaying(other)) {
            return BAD;
        }
        survey(0);
        return tellShare(table.sharesOf(1 << one | 1 << other), table.allShares);
    }

    public int given(int one, int other) {
        if (!isSaying(one) || !isSaying(other)) {
            return BAD;
        }
        survey(0);
        return tellShare(table.sharesOf(1 << one | 1 << other), table.sharesOf(1 << other));
    }

    public int alike(int x, int y) {
        if (!isName(x) || !isName(y)) {
            return BAD;
        }
        for (int s = 0; s < SAYINGS; s++) {
            if (tellings[s] != tellings[withNamesChanged(s, x, y)]) {
                return 0;
            }
        }
        return 1;
    }

    public int draw(int l, int n, int saying) {
        if (n < 1 || n > MOST_DRAWN || !isSaying(saying)) {
            return BAD;
        }
        survey(0);
        if (table.isEmpty()) {
            return found(NOUGHT);
        }
        int so = 0;
        int world = 0;
        int state = l;
        for (int i = 0; i < n; i++) {
            int first = nextNumber(state);
            state = nextNumber(first);
            long v = fifteenBits(first) * 32768L + fifteenBits(state);
            world = table.worldAbove((v * table.allShares) >> 30);
            if (table.isSo(world, saying)) {
                so++;
            }
        }
        askedNumber = world;
        return so;
    }

    // ---- 3 learning, why, acts

    public int learn(int world, int laws, int price) {
        if (!isWorld(world) || laws < 1 || laws > ALL_LAWS) {
            return BAD;
        }
        if (Integer.bitCount(laws) > MOST_LEARNED || price < 0 || price > MOST_PRICE) {
            return BAD;
        }
        int finding = findingOfLearned(laws);
        if (finding != NO_FINDING) {
            return found(finding);
        }
        survey(0);
        if (table.isEmpty()) {
            return found(NOUGHT);
        }
        if (table.isBarred(world)) {
            return STATE;
        }
        int code = bestCode(world, laws, price);
        setWeights(laws, code);
        survey(0);
        tellFraction(table.shareOf(world), table.allShares);
        return figuresOf(code);
    }

    public int pull(int k, int saying) {
        if (!isLaw(k) || !isSaying(saying)) {
            return BAD;
        }
        if (!lawSlots[k].there) {
            return found(NOTHING);
        }
        survey(0);
        long so = table.sharesOf(1 << saying);
        long all = table.allShares;
        survey(1 << k);
        long soWithout = table.sharesOf(1 << saying);
        long allWithout = table.allShares;
        if (all <= 0 || allWithout <= 0) {
            return found(NOUGHT);
        }
        tellFraction(so * allWithout - soWithout * all, all * allWithout);
        return 1;
    }

    public int why(int saying) {
        if (!isSaying(saying)) {
            return BAD;
        }
        survey(0);
        if (table.isEmpty()) {
            return found(NOUGHT);
        }
        for (int size = 0; size <= LAWS; size++) {
            for (int bits = 0; bits <= ALL_LAWS; bits++) {
                if (Integer.bitCount(bits) == size && areThere(bits) && isUnlikelyWithout(bits, saying)) {
                    return bits;
                }
            }
        }
        return NONE;
    }

    public int otherwise(int saying, int how, int other) {
        if (!isSaying(saying) || !isTelling(how) || !isSaying(other)) {
            return BAD;
        }
        if (!isOfNames(saying, nameCount)) {
            return BAD;
        }
        if (wouldSeekTooMany(saying, how)) {
            return FULL;
        }
        surveyTold(saying, how);
        return tellShare(table.sharesOf(1 << other), table.allShares);
    }

    public int act(int saying, int r) {
        if (!isSaying(saying) || !rows.isNumber(r)) {
            return BAD;
        }
        int finding = surveyForActs(r);
        if (finding != NO_FINDING) {
            return found(finding);
        }
        long so = table.sharesOf(1 << saying);
        long notSo = table.allShares - so;
        int act = bestAct(r, so, notSo);
        tellFraction(worthOf(r, act, so, notSo), table.allShares);
        return act;
    }

    public int look(int saying, int r, int other) {
        if (!isSaying(saying) || !rows.isNumber(r) || !isSaying(other)) {
            return BAD;
        }
        int finding = surveyForActs(r);
        if (finding != NO_FINDING) {
            return found(finding);
        }
        long so = table.sharesOf(1 << saying);
        long notSo = table.allShares - so;
        long soSeen = table.sharesOf(1 << saying | 1 << other);
        long notSoSeen = table.sharesOf(1 << other) - soSeen;
        long looking = greatestWorth(r, soSeen, notSoSeen) + greatestWorth(r, so - soSeen, notSo - notSoSeen);
        tellFraction(looking - greatestWorth(r, so, notSo), table.allShares);
        return 1;
    }

    public int wrong() {
        survey(0);
        int now = table.leastCost;
        int saying = NONE;
        int most = 0;
        for (int s = 0; s < SAYINGS; s++) {
            if (tellings[s] == SEEN_SO || tellings[s] == SEEN_NOT_SO) {
                surveyTold(s, tellings[s] == SEEN_SO ? SEEN_NOT_SO : SEEN_SO);
                int fall = fallOfCost(now, table.leastCost);
                if (fall > most) {
                    most = fall;
                    saying = s;
                }
            }
        }
        if (saying != NONE) {
            askedNumber = most;
        }
        return saying;
    }

    public int held(int r, int tenth) {
        if (!rows.isNumber(r) || tenth < 0 || tenth > MOST_TENTHS) {
            return BAD;
        }
        int finding = findingOfHeld(r);
        if (finding != NO_FINDING) {
            return found(finding);
        }
        int so = 0;
        int all = 0;
        for (int i = 0; i + 1 < rows.sizeOf(r); i += 2) {
            if (rows.placeOf(r, i) == tenth) {
                so += rows.placeOf(r, i + 1);
                all++;
            }
        }
        askedNumber = all;
        return so;
    }

    // ---- 4 what is told

    public int asked() {
        return askedNumber;
    }

    public long upper() {
        return upperNumber;
    }

    public long lower() {
        return lowerNumber;
    }

    public int count(int what) {
        switch (what) {
            case 0:
                return nameCount;
            case 1:
                return countTold(SOUGHT, SOUGHT);
            case 2:
                return countTold(SEEN_SO, SEEN_NOT_SO);
            case 3:
                return countLaws(false);
            case 4:
                return countLaws(true);
            case 5:
                return rows.countThere();
            case 6:
                return texts.countThere();
            default:
                return BAD;
        }
    }

    public int finding() {
        return latestFinding;
    }

    public int findings(int f) {
        return f >= NOTHING && f <= SIZE ? findingCounts[f] : BAD;
    }

    public long digest() {
        long h = 17;
        for (int what = 0; what <= 6; what++) {
            h = 31 * h + count(what);
        }
        for (int s = 0; s < SAYINGS; s++) {
            h = 31 * h + tellings[s];
        }
        for (int k = 0; k < LAWS; k++) {
            h = digestOfLaw(h, lawSlots[k]);
        }
        return texts.digestOn(rows.digestOn(h));
    }

    // ---- refusals and fractions

    private int found(int finding) {
        if (finding >= NOTHING && finding <= SIZE) {
            latestFinding = finding;
            findingCounts[finding]++;
        }
        return FINDING;
    }

    private int makeOn(Shelf shelf, int r, int n, int filling) {
        if (!shelf.isNumber(r) || n > MOST_PLACES) {
            return BAD;
        }
        if (n < 0) {
            return found(SIZE);
        }
        shelf.make(r, n, filling);
        return n;
    }

    /** 0, if there is such a place. */
    private int refusalOfPlace(Shelf shelf, int r, int i) {
        if (!shelf.isNumber(r)) {
            return BAD;
        }
        if (!shelf.has(r)) {
            return found(NOTHING);
        }
        return shelf.hasPlaces(r, i, 1) ? 0 : found(BEYOND);
    }

    private int tellShare(long part, long whole) {
        if (whole <= 0) {
            return found(NOUGHT);
        }
        tellFraction(part, whole);
        return 1;
    }

    private void tellFraction(long up, long low) {
        long divisor = commonDivisor(Math.abs(up), low);
        if (divisor > 0) {
            upperNumber = up / divisor;
            lowerNumber = low / divisor;
        }
    }

    private static long commonDivisor(long one, long other) {
        long a = one;
        long b = other;
        // Euclid's steps on two longs are fewer than 100.
        for (int i = 0; i < 200 && b != 0; i++) {
            long rest = a % b;
            a = b;
            b = rest;
        }
        return a;
    }

    // ---- sayings

    private static boolean isSaying(int saying) {
        return saying >= 0 && saying < SAYINGS;
    }

    private static boolean isTelling(int how) {
        return how >= BY_DEFAULT && how <= SOUGHT;
    }

    private boolean isName(int x) {
        return x >= 0 && x < nameCount;
    }

    private static boolean isOfNames(int saying, int n) {
        boolean lastIsThere = saying % MOST_NAMES < n;
        if (saying < FIRST_OF_TWO) {
            return lastIsThere;
        }
        return lastIsThere && (saying - FIRST_OF_TWO) / MOST_NAMES < n;
    }

    private static int withNamesChanged(int saying, int x, int y) {
        int last = saying % MOST_NAMES;
        int changed = saying - last + changedName(last, x, y);
        if (saying < FIRST_OF_TWO) {
            return changed;
        }
        int first = (saying - FIRST_OF_TWO) / MOST_NAMES;
        return changed + MOST_NAMES * (changedName(first, x, y) - first);
    }

    private static int changedName(int name, int x, int y) {
        if (name == x) {
            return y;
        }
        return name == y ? x : name;
    }

    private boolean wouldSeekTooMany(int saying, int how) {
        return how == SOUGHT && tellings[saying] != SOUGHT && countTold(SOUGHT, SOUGHT) >= MOST_SOUGHT;
    }

    private int countTold(int from, int to) {
        int n = 0;
        for (int s = 0; s < SAYINGS; s++) {
            if (tellings[s] >= from && tellings[s] <= to) {
                n++;
            }
        }
        return n;
    }

    // ---- laws

    private static boolean isLaw(int k) {
        return k >= 0 && k < LAWS;
    }

    private static boolean isKind(int kind) {
        return kind >= NOTE && kind <= ONCE;
    }

    private static boolean isWeight(int w) {
        return w >= 0 && w <= MOST_WEIGHT;
    }

    private static boolean isHard(int kind) {
        return kind == HARD || kind == ONCE;
    }

    private static boolean isSoft(int kind) {
        return kind == SOFT || kind == COUNT;
    }

    private static boolean isOfKind(Law law, int kind) {
        switch (kind) {
            case HARD:
                return isHard(law.kind);
            case SOFT:
                return isSoft(law.kind);
            default:
                return law.kind == kind;
        }
    }

    private static int markOf(Law law, int kind) {
        switch (kind) {
            case HARD:
                return law.countDenied();
            case SOFT:
                return law.weight;
            case COUNT:
                return law.least;
            case ONCE:
                return law.sayingOf(0, 0, 0);
            default:
                return 0;
        }
    }

    private int toldOf(Law law, int what) {
        switch (what) {
            case 0:
                return law.kind;
            case 1:
                return law.parts;
            default:
                return law.caseCount(nameCount);
        }
    }

    private int countLaws(boolean hardOnly) {
        int n = 0;
        for (int k = 0; k < LAWS; k++) {
            if (lawSlots[k].there && (!hardOnly || isHard(lawSlots[k].kind))) {
                n++;
            }
        }
        return n;
    }

    private long digestOfLaw(long before, Law law) {
        if (!law.there) {
            return 31 * before - 1;
        }
        long h = before;
        for (int what = 0; what <= 2; what++) {
            h = 31 * h + toldOf(law, what);
        }
        return 31 * h + markOf(law, law.kind);
    }

    private boolean areThere(int bits) {
        for (int k = 0; k < LAWS; k++) {
            if ((bits >> k & 1) != 0 && !lawSlots[k].there) {
                return false;
            }
        }
        return true;
    }

    // ---- worlds

    private boolean isWorld(int world) {
        return world >= 0 && world < 1 << countTold(SOUGHT, SOUGHT);
    }

    /** Brings the table of WORLDS up to date and weighs it, as if some LAWS (bits) were missing. */
    private void survey(int without) {
        if (stale) {
            table.gather(tellings, nameCount, lawSlots);
            stale = false;
        }
        table.weigh(lawSlots, without);
    }

    /** Surveys as if a SAYING were told otherwise: the table is of that until the next survey, which makes it anew. */
    private void surveyTold(int saying, int how) {
        int before = tellings[saying];
        tellings[saying] = how;
        stale = true;
        survey(0);
        tellings[saying] = before;
        stale = true;
    }

    /** From no WORLD the COST falls by the same to any WORLD, so that such falls are alike. */
    private static int fallOfCost(int from, int to) {
        if (from == BARRED && to != BARRED) {
            return FALL_FROM_NO_WORLD;
        }
        return from - to;
    }

    private boolean isUnlikelyWithout(int bits, int saying) {
        survey(bits);
        return 2 * table.sharesOf(1 << saying) <= table.allShares;
    }

    private static int nextNumber(int l) {
        return l * 1103515245 + 12345;
    }

    private static int fifteenBits(int l) {
        return l >>> 16 & 32767;
    }

    // ---- learning: WEIGHTS of the told LAWS are a code, two bits a LAW, the first LAW's highest

    private int findingOfLearned(int bits) {
        if (!areThere(bits)) {
            return NOTHING;
        }
        for (int k = 0; k < LAWS; k++) {
            if ((bits >> k & 1) != 0 && !isSoft(lawSlots[k].kind)) {
                return UNLIKE;
            }
        }
        return NO_FINDING;
    }

    private int bestCode(int world, int bits, int price) {
        int best = 0;
        int bestPower = 0;
        long bestAll = 0;
        int codes = 1 << 2 * Integer.bitCount(bits);
        for (int code = 0; code < codes; code++) {
            setWeights(bits, code);
            survey(0);
            int power = table.sharePowerOf(world);
            if (power != NO_SHARE) {
                power -= price * sumOf(code);
            }
            int order = code == 0 ? 1 : compareParts(power, table.allShares, bestPower, bestAll);
            if (order > 0 || order == 0 && sumOf(code) < sumOf(best)) {
                best = code;
                bestPower = power;
                bestAll = table.allShares;
            }
        }
        return best;
    }

    /** Compares 2 to the power of one by all with 2 to the power of another one by all of that. */
    private static int compareParts(int power, long all, int otherPower, long otherAll) {
        if (power == NO_SHARE || otherPower == NO_SHARE) {
            return Integer.compare(power, otherPower);
        }
        // SHARES together are 2 to the power of 20 to 30: a gap of more than 31 tells no more than 31 does.
        int gap = Math.min(Math.abs(power - otherPower), 31);
        if (power >= otherPower) {
            return Long.compare(otherAll << gap, all);
        }
        return Long.compare(otherAll, all << gap);
    }

    private void setWeights(int bits, int code) {
        int rest = code;
        for (int k = LAWS - 1; k >= 0; k--) {
            if ((bits >> k & 1) != 0) {
                lawSlots[k].weight = rest & 3;
                rest = rest >> 2;
            }
        }
    }

    private static int sumOf(int code) {
        return (code & 3) + (code >> 2 & 3) + (code >> 4 & 3);
    }

    private static int figuresOf(int code) {
        return 100 * (code >> 4 & 3) + 10 * (code >> 2 & 3) + (code & 3);
    }

    // ---- pairs in rows

    private int surveyForActs(int r) {
        int finding = findingOfWorths(r);
        if (finding != NO_FINDING) {
            return finding;
        }
        survey(0);
        return table.isEmpty() ? NOUGHT : NO_FINDING;
    }

    private int findingOfWorths(int r) {
        if (!rows.has(r)) {
            return NOTHING;
        }
        if (rows.sizeOf(r) == 0 || rows.sizeOf(r) % 2 != 0) {
            return SIZE;
        }
        for (int i = 0; i < rows.sizeOf(r); i++) {
            int worth = rows.placeOf(r, i);
            if (worth < -MOST_WORTH || worth > MOST_WORTH) {
                return UNLIKE;
            }
        }
        return NO_FINDING;
    }

    private int findingOfHeld(int r) {
        if (!rows.has(r)) {
            return NOTHING;
        }
        if (rows.sizeOf(r) % 2 != 0) {
            return SIZE;
        }
        for (int i = 0; i < rows.sizeOf(r); i++) {
            int most = i % 2 == 0 ? MOST_TENTHS : 1;
            if (rows.placeOf(r, i) < 0 || rows.placeOf(r, i) > most) {
                return UNLIKE;
            }
        }
        return NO_FINDING;
    }

    private long worthOf(int r, int act, long so, long notSo) {
        return rows.placeOf(r, 2 * act) * so + rows.placeOf(r, 2 * act + 1) * notSo;
    }

    private int bestAct(int r, long so, long notSo) {
        int best = 0;
        for (int act = 1; act < rows.sizeOf(r) / 2; act++) {
            if (worthOf(r, act, so, notSo) > worthOf(r, best, so, notSo)) {
                best = act;
            }
        }
        return best;
    }

    private long greatestWorth(int r, long so, long notSo) {
        return worthOf(r, bestAct(r, so, notSo), so, notSo);
    }

    /** ROWS, or TEXTS: each is there with some places, or missing. */
    private static final class Shelf {
        private final int[][] places;
        private final int[] sizes;

        Shelf(int number) {
            int length = Math.max(number, 0);
            places = new int[length][MOST_PLACES];
            sizes = new int[length];
            Arrays.fill(sizes, MISSING);
        }

        boolean isNumber(int r) {
            return r >= 0 && r < sizes.length;
        }

        boolean has(int r) {
            return isNumber(r) && sizes[r] != MISSING;
        }

        int sizeOf(int r) {
            return has(r) ? sizes[r] : 0;
        }

        boolean hasPlaces(int r, int i, int n) {
            return has(r) && i >= 0 && n >= 0 && i <= sizes[r] - n;
        }

        void make(int r, int n, int filling) {
            if (isNumber(r) && n >= 0 && n <= MOST_PLACES) {
                sizes[r] = n;
                Arrays.fill(places[r], filling);
            }
        }

        void remove(int r) {
            if (isNumber(r)) {
                sizes[r] = MISSING;
            }
        }

        int placeOf(int r, int i) {
            return hasPlaces(r, i, 1) ? places[r][i] : 0;
        }

        void change(int r, int i, int v) {
            if (hasPlaces(r, i, 1)) {
                places[r][i] = v;
            }
        }

        void move(int r, int i, int to, int j, int n) {
            if (hasPlaces(r, i, n) && hasPlaces(to, j, n)) {
                System.arraycopy(places[r], i, places[to], j, n);
            }
        }

        long sumOf(int r) {
            long sum = 0;
            for (int i = 0; i < sizeOf(r); i++) {
                sum += places[r][i];
            }
            return sum;
        }

        int countThere() {
            int n = 0;
            for (int r = 0; r < sizes.length; r++) {
                if (sizes[r] != MISSING) {
                    n++;
                }
            }
            return n;
        }

        long digestOn(long before) {
            long h = before;
            for (int r = 0; r < sizes.length; r++) {
                h = 31 * h + sizes[r];
                for (int i = 0; i < sizes[r]; i++) {
                    h = 31 * h + places[r][i];
                }
            }
            return h;
        }
    }

    /** A LAW as its TEXT told it. */
    private static final class Law {
        private static final int AHEAD = 0, FIGURE = 1, PART = 2, LETTER = 3, FIRST = 4, LAST = 5;
        private static final int AFTER = 6, BEHIND = 7, STUCK = -1;
        private static final int NOBODY = -1, X = 0, Y = 1;

        private boolean there = false;
        private int kind = NOTE;
        private int weight = 0;
        private int least = 0;
        private int parts = 0;
        /** Of each part: its SAYING of names 0, who its names are, whether it has a !. */
        private final int[] bases = new int[MOST_PARTS];
        private final int[] firsts = new int[MOST_PARTS];
        private final int[] lasts = new int[MOST_PARTS];
        private final boolean[] denied = new boolean[MOST_PARTS];

        /** The place of the FAULT, or NONE. */
        int read(Shelf shelf, int t, int kindOfLaw) {
            there = false;
            kind = kindOfLaw;
            weight = 0;
            least = 0;
            parts = 0;
            int size = shelf.sizeOf(t);
            int state = AHEAD;
            for (int i = 0; i < size; i++) {
                state = stateAfter(state, shelf.placeOf(t, i));
                if (state == STUCK) {
                    return i;
                }
            }
            return state == AFTER || state == BEHIND ? NONE : size;
        }

        private int stateAfter(int state, int sign) {
            switch (state) {
                case AHEAD:
                    return sign == BLANK ? AHEAD : afterHead(sign);
                case FIGURE:
                    return afterFigure(sign);
                case PART:
                    return afterPartStart(sign);
                case LETTER:
                    return afterLetter(sign);
                case FIRST:
                    return afterFirst(sign);
                case LAST:
                    return afterLast(sign);
                case AFTER:
                    return afterPart(sign);
                case BEHIND:
                    return sign == BLANK ? BEHIND : STUCK;
                default:
                    return STUCK;
            }
        }

        private int afterHead(int sign) {
            if (kind == COUNT) {
                return sign == '#' ? FIGURE : STUCK;
            }
            if (kind == ONCE) {
                return sign == '1' ? PART : STUCK;
            }
            return afterPartStart(sign);
        }

        private int afterFigure(int sign) {
            if (sign < '1' || sign > '4') {
                return STUCK;
            }
            least = sign - '0';
            return PART;
        }

        private int afterPartStart(int sign) {
            if (parts >= MOST_PARTS) {
                return STUCK;
            }
            denied[parts] = sign == '!';
            return denied[parts] ? LETTER : afterLetter(sign);
        }

        private int afterLetter(int sign) {
            if (parts >= MOST_PARTS) {
                return STUCK;
            }
            firsts[parts] = NOBODY;
            if (sign >= 'A' && sign <= 'C') {
                bases[parts] = MOST_NAMES * (sign - 'A');
                return LAST;
            }
            bases[parts] = FIRST_OF_TWO;
            return sign == 'F' ? FIRST : STUCK;
        }

        private int afterFirst(int sign) {
            if (parts >= MOST_PARTS || !isVariable(sign)) {
                return STUCK;
            }
            firsts[parts] = sign - 'x';
            return LAST;
        }

        private int afterLast(int sign) {
            if (parts >= MOST_PARTS || !isVariable(sign)) {
                return STUCK;
            }
            lasts[parts] = sign - 'x';
            parts++;
            return AFTER;
        }

        private int afterPart(int sign) {
            if (sign == BLANK) {
                return BEHIND;
            }
            boolean mayGoOn = !isOverNames() && parts < MOST_PARTS;
            return sign == '|' && mayGoOn ? PART : STUCK;
        }

        private boolean isVariable(int sign) {
            return sign == 'x' || sign == 'y' && !isOverNames();
        }

        /** Whether all names together are its one CASE. */
        boolean isOverNames() {
            return kind == COUNT || kind == ONCE;
        }

        boolean has(int variable) {
            for (int p = 0; p < parts; p++) {
                if (firsts[p] == variable || lasts[p] == variable) {
                    return true;
                }
            }
            return false;
        }

        int caseCount(int names) {
            return isOverNames() ? 1 : choices(X, names) * choices(Y, names);
        }

        /** How many names a variable is told, one after another: just one, if no part has it. */
        int choices(int variable, int names) {
            return has(variable) ? names : 1;
        }

        int countDenied() {
            int n = 0;
            for (int p = 0; p < parts; p++) {
                if (denied[p]) {
                    n++;
                }
            }
            return n;
        }

        int sayingOf(int p, int x, int y) {
            if (p < 0 || p >= parts) {
                return 0;
            }
            int last = lasts[p] == X ? x : y;
            if (firsts[p] == NOBODY) {
                return bases[p] + last;
            }
            return bases[p] + MOST_NAMES * (firsts[p] == X ? x : y) + last;
        }

        /** The SAYINGS (bits) of the parts with a !, or of those without, in a CASE. */
        int sayingsOf(boolean withDenial, int x, int y) {
            int bits = 0;
            for (int p = 0; p < parts; p++) {
                if (denied[p] == withDenial) {
                    bits |= 1 << sayingOf(p, x, y);
                }
            }
            return bits;
        }

        /** Of COUNT and ONCE. */
        boolean isBrokenBy(int truth, int names) {
            int holding = 0;
            for (int x = 0; x < names; x++) {
                boolean so = (truth >> sayingOf(0, x, x) & 1) != 0;
                if (so != denied[0]) {
                    holding++;
                }
            }
            return kind == COUNT ? holding < least : holding != 1;
        }
    }

    /** All WORLDS: what is so in each, what each breaks, and what it costs. */
    private static final class Worlds {
        private static final int BITS_A_LAW = 8;

        private int number = 1;
        /** The SOUGHT SAYINGS, as bits. */
        private int open = 0;
        /** Of each WORLD the SAYINGS that are so, as bits. */
        private final int[] truths = new int[MOST_WORLDS];
        /** Of each WORLD how many CASES of each LAW it breaks (16 at most), eight bits a LAW. */
        private final long[] breaks = new long[MOST_WORLDS];
        private final int[] costs = new int[MOST_WORLDS];
        private final long[] shares = new long[MOST_WORLDS];
        /** WEIGHTS as they were at the latest weighing; 0 of LAWS that are not SOFT. */
        private final int[] weights = new int[LAWS];
        /** The LIKELIEST WORLD, and its COST (BARRED: there is none). */
        private int best = 0;
        private int leastCost = 0;
        private long allShares = 0;

        void gather(int[] tellings, int names, Law[] laws) {
            listTruths(tellings);
            Arrays.fill(breaks, 0L);
            for (int k = 0; k < LAWS; k++) {
                if (laws[k].there && laws[k].kind != NOTE) {
                    addBreaks(k, laws[k], names);
                }
            }
        }

        private void listTruths(int[] tellings) {
            number = 1;
            open = 0;
            truths[0] = 0;
            for (int s = 0; s < SAYINGS; s++) {
                if (tellings[s] == SEEN_SO) {
                    truths[0] |= 1 << s;
                }
            }
            for (int s = 0; s < SAYINGS; s++) {
                if (tellings[s] == SOUGHT && number < MOST_WORLDS) {
                    open |= 1 << s;
                    splitBy(s);
                }
            }
        }

        private void splitBy(int saying) {
            for (int w = 0; w < number && number + w < MOST_WORLDS; w++) {
                truths[number + w] = truths[w] | 1 << saying;
            }
            number = 2 * number;
        }

        private void addBreaks(int k, Law law, int names) {
            if (law.isOverNames()) {
                addBreaksOverNames(k, law, names);
                return;
            }
            for (int x = 0; x < law.choices(Law.X, names); x++) {
                for (int y = 0; y < law.choices(Law.Y, names); y++) {
                    addCase(k, law.sayingsOf(false, x, y), law.sayingsOf(true, x, y));
                }
            }
        }

        private void addBreaksOverNames(int k, Law law, int names) {
            for (int w = 0; w < number; w++) {
                if (law.isBrokenBy(truths[w], names)) {
                    breaks[w] += 1L << k * BITS_A_LAW;
                }
            }
        }

        /** A CASE is broken where none of some SAYINGS are so and all of the denied ones are. */
        private void addCase(int k, int wanted, int denied) {
            int fixed = truths[0];
            boolean holdsAlways = (fixed & wanted) != 0 || (~fixed & ~open & denied) != 0;
            if (holdsAlways) {
                return;
            }
            for (int w = 0; w < number; w++) {
                if ((truths[w] & wanted) == 0 && (truths[w] & denied) == denied) {
                    breaks[w] += 1L << k * BITS_A_LAW;
                }
            }
        }

        void weigh(Law[] laws, int without) {
            long hard = 0;
            for (int k = 0; k < LAWS; k++) {
                boolean counts = laws[k].there && (without >> k & 1) == 0;
                weights[k] = counts && isSoft(laws[k].kind) ? laws[k].weight : 0;
                if (counts && isHard(laws[k].kind)) {
                    hard |= 255L << k * BITS_A_LAW;
                }
            }
            best = 0;
            leastCost = BARRED;
            for (int w = 0; w < number; w++) {
                costs[w] = (breaks[w] & hard) != 0 ? BARRED : softCost(w);
                if (costs[w] < leastCost) {
                    best = w;
                    leastCost = costs[w];
                }
            }
            shareOut();
        }

        private void shareOut() {
            allShares = 0;
            for (int w = 0; w < number; w++) {
                int power = sharePowerOf(w);
                shares[w] = power < 0 ? 0 : 1L << power;
                allShares += shares[w];
            }
        }

        int softCost(int world) {
            int sum = 0;
            for (int k = 0; k < LAWS; k++) {
                if (weights[k] != 0) {
                    sum += weights[k] * breaksOf(k, world);
                }
            }
            return sum;
        }

        int hardBreaks(int world, Law[] laws) {
            int sum = 0;
            for (int k = 0; k < LAWS; k++) {
                if (laws[k].there && isHard(laws[k].kind)) {
                    sum += breaksOf(k, world);
                }
            }
            return sum;
        }

        int breaksOf(int k, int world) {
            return (int) (breaks[world] >>> k * BITS_A_LAW & 255L);
        }

        boolean isEmpty() {
            return leastCost == BARRED;
        }

        boolean isBarred(int world) {
            return costs[world] == BARRED;
        }

        boolean isSo(int world, int saying) {
            return (truths[world] >> saying & 1) != 0;
        }

        int countWithin(int d) {
            int n = 0;
            for (int w = 0; w < number; w++) {
                if (!isBarred(w) && costs[w] - leastCost <= d) {
                    n++;
                }
            }
            return n;
        }

        /** The power of 2 that its SHARE is, or NO_SHARE. */
        int sharePowerOf(int world) {
            int above = costs[world] - leastCost;
            return isBarred(world) || above > SHARE_POWER ? NO_SHARE : SHARE_POWER - above;
        }

        long shareOf(int world) {
            return shares[world];
        }

        /** SHARES together of the WORLDS in which all of some SAYINGS (bits) are so. */
        long sharesOf(int sayings) {
            long sum = 0;
            for (int w = 0; w < number; w++) {
                if ((truths[w] & sayings) == sayings) {
                    sum += shares[w];
                }
            }
            return sum;
        }

        /** The first WORLD at which SHARES added up are above a limit. */
        int worldAbove(long limit) {
            long sum = 0;
            for (int w = 0; w < number; w++) {
                sum += shares[w];
                if (sum > limit) {
                    return w;
                }
            }
            return 0;
        }
    }
}
