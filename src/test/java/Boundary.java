import java.util.Arrays;
import java.util.function.Consumer;
import java.util.function.ToIntFunction;

/**
 * What the boundary tests share. Each test quotes the sentence of the document that it is for; a sentence that is not
 * in the document, a test that looks at nothing, and words of a section that no test has quoted are faults, too.
 */
final class Boundary {
    static final int BAD = -1, FULL = -2, FINDING = -3, STATE = -4, NONE = -9;
    static final int NOTHING = 1, BEYOND = 2, UNLIKE = 3, NOUGHT = 4, SIZE = 5;
    static final int NOTE = 0, HARD = 1, SOFT = 2, COUNT = 3, ONCE = 4;
    static final int LOW = Integer.MIN_VALUE, HIGH = Integer.MAX_VALUE;
    static final int NO_FINDING = 0;

    private final Check check = new Check();
    private final Document document = new Document();
    private String heading = "";
    private String sentence = "";
    private int sentences = 0;
    private int looks = 0;

    void section(String name, Runnable tests) {
        heading = name;
        sentence = "";
        tests.run();
        String left = document.leftOut(name);
        if (!left.isEmpty()) {
            is("words that no test quotes: " + left, 1, 0);
        }
    }

    void says(String words, Runnable test) {
        sentence = words;
        sentences++;
        looks = 0;
        test.run();
        if (looks == 0) {
            is("looks at nothing", 1, 0);
        }
        if (!document.quote(heading, words)) {
            is("stands in the document", 0, 1);
        }
    }

    void end(String... without) {
        heading = "the document";
        for (String name : document.headings()) {
            if (!Arrays.asList(without).contains(name) && !document.leftOut(name).isEmpty()) {
                is("a test for every sentence of " + name, 0, 1);
            }
        }
        System.out.println(sentences + " sentences quoted");
        check.end();
    }

    // ---- answers

    void is(String call, long got, long want) {
        looks++;
        check.due("[" + heading + " - " + sentence + "] " + call, got, want);
    }

    void asked(String call, WeightedLaws w, int got, int want, int asked) {
        is(call, got, want);
        is(call + " asked()", w.asked(), asked);
    }

    void fraction(String call, WeightedLaws w, int got, long upper, long lower) {
        told(call, w, got, 1, upper, lower);
    }

    void told(String call, WeightedLaws w, int got, int want, long upper, long lower) {
        is(call, got, want);
        is(call + " upper()", w.upper(), upper);
        is(call + " lower()", w.lower(), lower);
    }

    // ---- refusals: each by an object of its own

    void bad(String call, Consumer<WeightedLaws> start, ToIntFunction<WeightedLaws> use) {
        refused(call, start, use, BAD, NO_FINDING);
    }

    void full(String call, Consumer<WeightedLaws> start, ToIntFunction<WeightedLaws> use) {
        refused(call, start, use, FULL, NO_FINDING);
    }

    void state(String call, Consumer<WeightedLaws> start, ToIntFunction<WeightedLaws> use) {
        refused(call, start, use, STATE, NO_FINDING);
    }

    /** NONE is no refusal, but tells as little and changes as little. */
    void none(String call, Consumer<WeightedLaws> start, ToIntFunction<WeightedLaws> use) {
        refused(call, start, use, NONE, NO_FINDING);
    }

    void found(int finding, String call, Consumer<WeightedLaws> start, ToIntFunction<WeightedLaws> use) {
        refused(call, start, use, FINDING, finding);
    }

    /** Whatever is refused is also looked at for having changed nothing: beside a twin that was not called so. */
    private void refused(String call, Consumer<WeightedLaws> start, ToIntFunction<WeightedLaws> use, int answer,
            int finding) {
        WeightedLaws w = begun(start, finding);
        WeightedLaws twin = begun(start, finding);
        is(call, use.applyAsInt(w), answer);
        is(call + ": asked() stays", w.asked(), twin.asked());
        is(call + ": upper() stays", w.upper(), twin.upper());
        is(call + ": lower() stays", w.lower(), twin.lower());
        is(call + ": finding()", w.finding(), finding == NO_FINDING ? twin.finding() : finding);
        for (int f = NOTHING; f <= SIZE; f++) {
            is(call + ": findings(" + f + ")", w.findings(f), twin.findings(f) + (f == finding ? 1 : 0));
        }
        is(call + ": changes nothing", sightOf(w), sightOf(twin));
    }

    /** An object that has told a number, a fraction and another FINDING before the start. */
    private static WeightedLaws begun(Consumer<WeightedLaws> start, int finding) {
        WeightedLaws w = new WeightedLaws();
        w.otherwise(0, 3, 0);
        start.accept(w);
        tellNumber(w);
        if (finding == SIZE) {
            w.lay(0, -1, 0);
        } else {
            w.row(0, -1);
        }
        return w;
    }

    private static void tellNumber(WeightedLaws w) {
        for (int r = 0; r < 6; r++) {
            if (w.mean(r) == FINDING && w.finding() == NOTHING) {
                fill(w, r, -77);
                w.at(r, 0);
                w.tear(r);
                return;
            }
        }
    }

    /** All that can be seen of an object but its FINDINGS, as one number. */
    static long sightOf(WeightedLaws w) {
        long h = w.digest();
        h = 31 * h + w.worlds();
        for (int k = 0; k < 8; k++) {
            for (int kind = HARD; kind <= ONCE; kind++) {
                h = 31 * h + w.mark(k, kind);
            }
        }
        for (int world = 0; world < Math.min(w.worlds(), 8); world++) {
            h = 31 * h + w.cost(world);
            h = 31 * h + w.asked();
            for (int k = 0; k < 8; k++) {
                h = 31 * h + w.broken(k, world);
            }
        }
        h = 31 * h + w.likeliest();
        h = 31 * h + w.near(3);
        for (int s = 0; s < 28; s++) {
            h = 31 * h + w.odds(s);
            h = 31 * h + w.upper();
            h = 31 * h + w.lower();
        }
        return 31 * h + w.wrong();
    }

    // ---- starts

    static void nothing(WeightedLaws w) {
    }

    static WeightedLaws of(Consumer<WeightedLaws> start) {
        WeightedLaws w = new WeightedLaws();
        start.accept(w);
        return w;
    }

    static void fill(WeightedLaws w, int r, int... ints) {
        w.row(r, ints.length);
        for (int i = 0; i < ints.length; i++) {
            w.lay(r, i, ints[i]);
        }
    }

    static void seek(WeightedLaws w, int... sayings) {
        for (int s : sayings) {
            w.tell(s, 3);
        }
    }

    static void seekTen(WeightedLaws w) {
        seek(w, 0, 1, 2, 4, 5, 6, 8, 9, 12, 13);
    }

    static int law(WeightedLaws w, int k, String signs, int kind, int weight) {
        return Check.law(w, k, signs, kind, weight);
    }

    /** C of name 2 is not so, unless told: no WORLD is left. */
    static void barAll(WeightedLaws w) {
        law(w, 7, "Cx", HARD, 0);
    }
}
