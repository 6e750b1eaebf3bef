/** What the tests share: counting answers that are not as due, and writing TEXTS and LAWS. */
final class Check {
    private int calls = 0;
    private int wrong = 0;

    void due(String call, long got, long want) {
        calls++;
        if (got != want) {
            wrong++;
            System.out.println(call + " answered " + got + ", due is " + want);
        }
    }

    void due(String what, boolean holds) {
        due(what, holds ? 1 : 0, 1);
    }

    /** A call that tells a fraction. */
    void fraction(String call, WeightedLaws w, int got, long upper, long lower) {
        due(call, got, 1);
        due(call + " upper()", w.upper(), upper);
        due(call + " lower()", w.lower(), lower);
    }

    /** A call that tells a number by asked(). */
    void asked(String call, WeightedLaws w, int got, int want, int asked) {
        due(call, got, want);
        due(call + " asked()", w.asked(), asked);
    }

    /** A call that is refused with a FINDING. */
    void finding(String call, WeightedLaws w, int got, int finding) {
        due(call, got, WeightedLaws.FINDING);
        due(call + " finding()", w.finding(), finding);
    }

    boolean hasWrong() {
        return wrong != 0;
    }

    void end() {
        System.out.println(calls + " answers looked at, " + wrong + " not as due");
        if (wrong != 0) {
            System.exit(1);
        }
    }

    static void write(WeightedLaws w, int t, String signs) {
        w.text(t, signs.length());
        for (int i = 0; i < signs.length(); i++) {
            w.put(t, i, signs.charAt(i));
        }
    }

    /** Writes a TEXT 3 and makes a LAW of it. */
    static int law(WeightedLaws w, int k, String signs, int kind, int weight) {
        write(w, 3, signs);
        return w.law(k, 3, kind, weight);
    }
}
