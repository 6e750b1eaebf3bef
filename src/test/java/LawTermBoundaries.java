import java.util.regex.Matcher;
import java.util.regex.Pattern;

/** Boundary cases of the document's Terms: KINDS of LAWS, and the signs of their TEXTS. */
final class LawTermBoundaries {
    private static final int NONE = Boundary.NONE, NOTHING = Boundary.NOTHING, UNLIKE = Boundary.UNLIKE;
    private static final int NOTE = Boundary.NOTE, HARD = Boundary.HARD, SOFT = Boundary.SOFT;
    private static final int COUNT = Boundary.COUNT, ONCE = Boundary.ONCE;

    private static final String PART = "!?(?:[ABC][xy]|F[xy][xy])";
    private static final String PART_OF_X = "!?(?:[ABC]x|Fxx)";
    private static final Pattern PARTS = Pattern.compile(" *" + PART + "(?:\\|" + PART + "){0,5} *");
    private static final Pattern OF_COUNT = Pattern.compile(" *#[1-4]" + PART_OF_X + " *");
    private static final Pattern OF_ONCE = Pattern.compile(" *1" + PART_OF_X + " *");
    private static final String SIGNS = " !AFxy|#14";

    private final Boundary b;

    LawTermBoundaries(Boundary boundary) {
        b = boundary;
    }

    void run() {
        kinds();
        b.says("Each has a TEXT: blanks (32) ahead and behind as many as wanted, within none;", this::blanks);
        b.says("of COUNT # (35) and a figure 1 .. 4 ahead,", this::countAhead);
        b.says("of ONCE 1 (49);", this::onceAhead);
        b.says("then parts (COUNT, ONCE: one; others 1 to 6, with | (124) between):", this::parts);
        b.says("! (33) or not;", this::denials);
        b.says("A, B, C (65 ..) and x or y (120, 121), or F (70) and two of these (COUNT, ONCE: x alone).",
            this::lettersAndNames);
        b.says("A FAULT is the first place at which it can't go on so for its KIND", this::everyShortText);
        b.says("(the TEXT's size, if its end comes too early;", this::endTooEarly);
        b.says("a seventh part: its |).", this::seventhPart);
    }

    private static Pattern patternOf(int kind) {
        if (kind == COUNT) {
            return OF_COUNT;
        }
        return kind == ONCE ? OF_ONCE : PARTS;
    }

    /** The FAULT by what a pattern could still become, without any sign read by hand. */
    private static int faultBy(Pattern pattern, String signs) {
        for (int end = 1; end <= signs.length(); end++) {
            Matcher matcher = pattern.matcher(signs.substring(0, end));
            if (!matcher.matches() && !matcher.hitEnd()) {
                return end - 1;
            }
        }
        return pattern.matcher(signs).matches() ? NONE : signs.length();
    }

    private void faultIs(String signs, int kind, int want) {
        WeightedLaws w = Boundary.of(v -> Check.write(v, 0, signs));
        b.is("fault of '" + signs + "' for " + kind, w.fault(0, kind), want);
        b.is("its law()", w.law(0, 0, kind, 0) >= 0 ? NONE : Boundary.STATE, want == NONE ? NONE : Boundary.STATE);
    }

    private void faultOfPartsIs(String signs, int want) {
        for (int kind = NOTE; kind <= SOFT; kind++) {
            faultIs(signs, kind, want);
        }
    }

    private void kinds() {
        b.says("LAWS 0 .. 7 (missing at first) are of a KIND:", () -> {
            for (int k = 0; k < 8; k++) {
                int law = k;
                b.found(NOTHING, "told(" + k + ", 0)", Boundary::nothing, w -> w.told(law, 0));
                b.is("law(" + k + ", ..)", Boundary.law(new WeightedLaws(), k, "Ax", HARD, 0), 3);
            }
            b.bad("law(-1, ..)", w -> Check.write(w, 0, "Ax"), w -> w.law(-1, 0, HARD, 0));
            b.bad("law(8, ..)", w -> Check.write(w, 0, "Ax"), w -> w.law(8, 0, HARD, 0));
        });
        b.says("0 LAW (a note: it breaks nothing),", () -> {
            WeightedLaws w = Boundary.of(v -> Boundary.law(v, 0, "Ax|By", NOTE, 9));
            b.is("broken(0, 0)", w.broken(0, 0), 0);
            b.asked("cost(0)", w, w.cost(0), 0, 0);
            b.asked("told(0, 0)", w, w.told(0, 0), 1, 0);
            b.asked("told(0, 2): it has CASES", w, w.told(0, 2), 1, 9);
        });
        b.says("1 HARD (a LAW),", () -> {
            WeightedLaws w = Boundary.of(v -> Boundary.law(v, 0, "Ax", HARD, 9));
            b.asked("cost(0)", w, w.cost(0), 0, 3);
            b.is("likeliest()", w.likeliest(), NONE);
        });
        b.says("2 SOFT (a LAW: with a WEIGHT 0 .. 9),", () -> {
            for (int weight : new int[] {0, 9}) {
                WeightedLaws w = Boundary.of(v -> Boundary.law(v, 0, "Ax", SOFT, weight));
                b.asked("cost(0) by " + weight, w, w.cost(0), 3 * weight, 0);
            }
            for (int weight : new int[] {-1, 10}) {
                b.bad("WEIGHT " + weight, w -> Check.write(w, 0, "Ax"), w -> w.law(0, 0, SOFT, weight));
            }
        });
        b.says("3 COUNT (a SOFT: so many names at least),", () -> {
            WeightedLaws w = Boundary.of(v -> Boundary.law(v, 0, "#2Ax", COUNT, 9));
            b.asked("none of two", w, w.cost(0), 9, 0);
            w.tell(0, 1);
            b.asked("one of two", w, w.cost(0), 9, 0);
            w.tell(1, 1);
            b.asked("two of two", w, w.cost(0), 0, 0);
            w.tell(2, 1);
            b.asked("three are at least two", w, w.cost(0), 0, 0);
            b.is("weight(0, 1): it is SOFT", w.weight(0, 1), 9);
        });
        b.says("4 ONCE (a HARD: just one name).", () -> {
            WeightedLaws w = Boundary.of(v -> Boundary.law(v, 0, "1Ax", ONCE, 9));
            b.asked("none", w, w.cost(0), 0, 1);
            w.tell(1, 1);
            b.asked("one", w, w.cost(0), 0, 0);
            w.tell(2, 1);
            b.asked("two", w, w.cost(0), 0, 1);
            b.found(UNLIKE, "weight(0, 1)", v -> Boundary.law(v, 0, "1Ax", ONCE, 9), v -> v.weight(0, 1));
        });
    }

    private void blanks() {
        faultOfPartsIs(" ".repeat(38) + "Ax", NONE);
        faultOfPartsIs("Ax" + " ".repeat(38), NONE);
        faultOfPartsIs(" ".repeat(19) + "Ax" + " ".repeat(19), NONE);
        faultIs(" ".repeat(36) + "#1Ax", COUNT, NONE);
        faultIs("#1Ax" + " ".repeat(36), COUNT, NONE);
        faultIs(" ".repeat(37) + "1Ax", ONCE, NONE);
        faultIs("1Ax" + " ".repeat(37), ONCE, NONE);
        faultOfPartsIs("! Ax", 1);
        faultOfPartsIs("A x", 1);
        faultOfPartsIs("F xy", 1);
        faultOfPartsIs("Fx y", 2);
        faultOfPartsIs("Ax |Bx", 3);
        faultOfPartsIs("Ax| Bx", 3);
        faultOfPartsIs("Ax  Bx", 4);
        faultIs("# 1Ax", COUNT, 1);
        faultIs("#1 Ax", COUNT, 2);
        faultIs("#1! Ax", COUNT, 3);
        faultIs("1 Ax", ONCE, 1);
        for (int other : new int[] {9, 10, 31, 33 + 128, 0, 160}) {
            WeightedLaws w = Boundary.of(v -> Check.write(v, 0, " Ax"));
            w.put(0, 0, other);
            b.is("byte " + other + " is no blank", w.fault(0, HARD), 0);
        }
    }

    private void countAhead() {
        for (int sign = 0; sign < 256; sign++) {
            WeightedLaws figure = Boundary.of(v -> Check.write(v, 0, "#1Ax"));
            figure.put(0, 1, sign);
            b.is("figure " + sign, figure.fault(0, COUNT), sign >= 49 && sign <= 52 ? NONE : 1);
            if (sign != 32) {
                WeightedLaws ahead = Boundary.of(v -> Check.write(v, 0, "#1Ax"));
                ahead.put(0, 0, sign);
                b.is("ahead " + sign, ahead.fault(0, COUNT), sign == 35 ? NONE : 0);
            }
        }
    }

    private void onceAhead() {
        for (int sign = 0; sign < 256; sign++) {
            if (sign != 32) {
                WeightedLaws w = Boundary.of(v -> Check.write(v, 0, "1Ax"));
                w.put(0, 0, sign);
                b.is("ahead " + sign, w.fault(0, ONCE), sign == 49 ? NONE : 0);
            }
        }
    }

    private void parts() {
        faultIs("#1Ax|Bx", COUNT, 4);
        faultIs("1Ax|Bx", ONCE, 3);
        faultIs("#1", COUNT, 2);
        faultIs("1", ONCE, 1);
        faultOfPartsIs("", 0);
        String signs = "Ax";
        for (int n = 1; n <= 6; n++) {
            faultOfPartsIs(signs, NONE);
            signs = signs + "|Ax";
        }
        faultOfPartsIs("!Fxy|!Fxy|!Fxy|!Fxy|!Fxy|!Fxy", NONE);
        for (int sign = 0; sign < 256; sign++) {
            WeightedLaws w = Boundary.of(v -> Check.write(v, 0, "Ax|Bx"));
            w.put(0, 2, sign);
            int due = sign == 32 ? 3 : 2;
            b.is("between " + sign, w.fault(0, HARD), sign == 124 ? NONE : due);
        }
    }

    private void denials() {
        faultOfPartsIs("!Ax|Bx|!Cx", NONE);
        faultOfPartsIs("!!Ax", 1);
        faultOfPartsIs("A!x", 1);
        faultOfPartsIs("Ax!", 2);
        faultIs("!#1Ax", COUNT, 0);
        faultIs("#!1Ax", COUNT, 1);
        faultIs("#1!Ax", COUNT, NONE);
        faultIs("#1!!Ax", COUNT, 3);
        faultIs("!1Ax", ONCE, 0);
        faultIs("1!Ax", ONCE, NONE);
    }

    private void lettersAndNames() {
        for (int sign = 0; sign < 256; sign++) {
            lettersFor("Ax", 0, sign, sign >= 65 && sign <= 67, sign == 70 || sign == 33 || sign == 32);
            lettersFor("!Ax", 1, sign, sign >= 65 && sign <= 67, sign == 70);
            lettersFor("Ax", 1, sign, sign == 120 || sign == 121, false);
            lettersFor("Fxy", 1, sign, sign == 120 || sign == 121, false);
            lettersFor("Fxy", 2, sign, sign == 120 || sign == 121, false);
        }
        for (String signs : new String[] {"Ay", "Fxy", "Fyx", "Fyy"}) {
            faultOfPartsIs(signs, NONE);
            faultIs("#1" + signs, COUNT, 2 + signs.indexOf('y'));
            faultIs("1" + signs, ONCE, 1 + signs.indexOf('y'));
        }
        faultIs("#1Fxx", COUNT, NONE);
        faultIs("1Fxx", ONCE, NONE);
        faultOfPartsIs("Axy", 2);
        faultOfPartsIs("Fxyx", 3);
    }

    /** One sign of a TEXT is another one: fine, or goes on to a later FAULT, or is the FAULT. */
    private void lettersFor(String signs, int place, int sign, boolean fine, boolean goesOn) {
        WeightedLaws w = Boundary.of(v -> Check.write(v, 0, signs));
        w.put(0, place, sign);
        int fault = w.fault(0, HARD);
        String what = signs + " with " + sign + " at " + place;
        if (fine) {
            b.is(what, fault, NONE);
        } else if (goesOn) {
            b.is(what + " goes on", fault > place ? 1 : 0, 1);
        } else {
            b.is(what, fault, place);
        }
    }

    private void everyShortText() {
        everyTextFrom("", 4);
        for (String start : new String[] {"Ax|!Fx", " #4!F", "1!Fx", "Ax|Ax|Ax|Ax|Ax|Fxy", "!By "}) {
            everyTextFrom(start, 2);
        }
    }

    private void everyTextFrom(String signs, int more) {
        WeightedLaws w = Boundary.of(v -> Check.write(v, 0, signs));
        for (int kind = NOTE; kind <= ONCE; kind++) {
            b.is("fault of '" + signs + "' for " + kind, w.fault(0, kind), faultBy(patternOf(kind), signs));
        }
        for (int i = 0; more > 0 && i < SIGNS.length(); i++) {
            everyTextFrom(signs + SIGNS.charAt(i), more - 1);
        }
    }

    private void endTooEarly() {
        for (String signs : new String[] {"", "  ", "!", "A", "F", "Fx", "!F", "Ax|", "Ax|!", "Ax|B", "Ax|F", "Ax|Fy",
            " ".repeat(40), " ".repeat(39) + "A", "Ax|Ax|Ax|Ax|Ax|"}) {
            faultOfPartsIs(signs, signs.length());
        }
        for (String signs : new String[] {"", "  ", "#", "#1", "#1!", "#1A", "#1F", "#1Fx", " ".repeat(39) + "#"}) {
            faultIs(signs, COUNT, signs.length());
        }
        for (String signs : new String[] {"", "  ", "1", "1!", "1A", "1F", "1Fx", " ".repeat(39) + "1"}) {
            faultIs(signs, ONCE, signs.length());
        }
    }

    private void seventhPart() {
        faultOfPartsIs("Ax|Ax|Ax|Ax|Ax|Ax|Ax", 17);
        faultOfPartsIs("Ax|Ax|Ax|Ax|Ax|Ax|", 17);
        faultOfPartsIs("!Fxy|!Fxy|!Fxy|!Fxy|!Fxy|!Fxy|!Fxy", 29);
        faultOfPartsIs("Ax|Ax|Ax|Ax|Ax|Ax |", 18);
        faultOfPartsIs("Ax|Ax|Ax|Ax|Ax|Ax ", NONE);
    }
}
