import java.util.NoSuchElementException;

/** What the tests share: answers beside those that are due, and how a polynomial gets to a PLACE. */
final class Due {
    private int wrong = 0;
    private int asked = 0;

    void is(String what, long got, long want) {
        asked++;
        if (got != want) {
            wrong++;
            System.out.println(what + " answered " + got + ", due is " + want);
        }
    }

    void holds(String what, boolean got) {
        is(what, got ? 1 : 0, 1);
    }

    /** The ROW has these numbers, and row() throws before and behind them. */
    void row(String what, SkewRings x, long... want) {
        is(what + ": numbers of the ROW", x.count(6), want.length);
        for (int i = 0; i < want.length; i++) is(what + ": row(" + i + ")", rowAt(x, i), want[i]);
        is(what + ": row(-1) throws", rowAt(x, -1), Long.MIN_VALUE);
        is(what + ": row behind the last throws", rowAt(x, want.length), Long.MIN_VALUE);
    }

    /** Long.MIN_VALUE stands for NoSuchElementException. */
    static long rowAt(SkewRings x, int i) {
        try {
            return x.row(i);
        } catch (NoSuchElementException e) {
            return Long.MIN_VALUE;
        }
    }

    static long factorAt(SkewRings x, int j, int k) {
        try {
            return x.factor(j, k);
        } catch (NoSuchElementException e) {
            return Long.MIN_VALUE;
        }
    }

    static void text(SkewRings x, String s) {
        int before = x.count(7);
        for (int i = 0; i < s.length(); i += 4) {
            int v = 0;
            for (int k = i; k < i + 4; k++) v = v << 8 | (k < s.length() ? s.charAt(k) : 0);
            x.sign(v);
        }
        x.end(before + s.length());
    }

    static int put(SkewRings x, int place, String s) {
        text(x, s);
        return x.tells(place);
    }

    static SkewRings fresh(int field, String... polynomials) {
        SkewRings x = new SkewRings();
        x.field(field);
        for (int i = 0; i < polynomials.length; i++) {
            if (put(x, i, polynomials[i]) < -1) throw new IllegalArgumentException(polynomials[i]);
        }
        return x;
    }

    /** What a PLACE has, as it is told. */
    static String at(SkewRings x, int place) {
        StringBuilder s = new StringBuilder();
        for (int k = 0; k <= x.degree(place); k++) s.append(k > 0 ? "," : "").append(x.number(place, k));
        return s.length() == 0 ? "0" : s.toString();
    }

    void place(String what, SkewRings x, int place, String want) {
        asked++;
        if (!at(x, place).equals(want)) {
            wrong++;
            System.out.println(what + ": place " + place + " has " + at(x, place) + ", due is " + want);
        }
    }

    /** A call that is refused so: nothing but THE TEXT may be other than before. */
    static String state(SkewRings x) {
        StringBuilder s = new StringBuilder();
        for (int what = 0; what < 7; what++) s.append(x.count(what)).append(' ');
        for (int i = 0; i < 6; i++) s.append(at(x, i)).append(' ');
        for (int i = 0; i < x.count(6); i++) s.append(rowAt(x, i)).append(' ');
        for (int j = 1; j <= x.count(5); j++) {
            for (int k = 0; factorAt(x, j, k) != Long.MIN_VALUE; k++) s.append(factorAt(x, j, k)).append(' ');
        }
        return s.toString();
    }

    void finish(String name) {
        System.out.println(name + ": " + (wrong == 0 ? asked + " answers are as due" : wrong + " of " + asked + " are not as due"));
        if (wrong > 0) System.exit(1);
    }
}
