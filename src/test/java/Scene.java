import java.util.NoSuchElementException;

/**
 * Objects with something of all there is to change (PLACES of several DEGREES, a ROW, FACTORS, THE TEXT), and what they
 * answer: a refused call leaves all of it as an object answers that was made alike and never called so.
 */
final class Scene {
    /** Answers that stand for a call that throws, and for true and false. */
    static final long THROWS = Long.MIN_VALUE;
    static final long TRUE = 1;
    static final long FALSE = 0;

    /** Parts of what an object answers, as bits: PLACE k is 1 << k. */
    static final int PLACES = 63;
    static final int FIELD = 1 << 6;
    static final int ROW = 1 << 7;
    static final int FACTORS = 1 << 8;
    static final int TEXT = 1 << 9;
    static final int BEHIND = 1 << 10;
    private static final String[] NAMES = {"PLACE 0", "PLACE 1", "PLACE 2", "PLACE 3", "PLACE 4", "PLACE 5", "FIELD", "the ROW",
        "FACTORS", "THE TEXT", "what is asked behind it"};

    interface Ask {
        long on(SkewRings x) throws NoSuchElementException;
    }

    interface Maker {
        SkewRings make();
    }

    private Scene() {
    }

    /** DEGREES 1, 2, 8, NONE, 0 and 4; THE TEXT "1,2". */
    static Maker usual(int f) {
        return of(f, "2,1", "1,0,1", "1,1,0,0,1,0,0,0,2", "0", "3", "3,1,0,2,2");
    }

    static Maker of(int f, String... polynomials) {
        return told(f, "1,2", polynomials);
    }

    static Maker told(int f, String text, String... polynomials) {
        return () -> {
            SkewRings x = Due.fresh(f, "0,1,1");
            x.factors(0);
            Due.put(x, 0, "0");
            for (int i = 0; i < polynomials.length; i++) Due.put(x, i, polynomials[i]);
            x.classes();
            Due.text(x, text);
            return x;
        };
    }

    static long ask(SkewRings x, Ask call) {
        try {
            return call.on(x);
        } catch (NoSuchElementException e) {
            return THROWS;
        }
    }

    /** The call answers so, and all else is as if it had not been made. */
    static void refused(Due due, String what, Maker maker, Ask call, long answer) {
        SkewRings x = maker.make();
        due.is(what, ask(x, call), answer);
        unchanged(due, what, x, maker.make(), 0);
    }

    /** As refused, of a call that reads THE TEXT: that is empty. */
    static void refusedReading(Due due, String what, Maker maker, Ask call, long answer) {
        SkewRings x = maker.make();
        due.is(what, ask(x, call), answer);
        due.is(what + ": THE TEXT is emptied", x.count(7), 0);
        SkewRings twin = maker.make();
        twin.end(0);
        unchanged(due, what, x, twin, 0);
    }

    /** The call answers so, and changes nothing but these parts. */
    static SkewRings accepted(Due due, String what, Maker maker, Ask call, long answer, int parts) {
        SkewRings x = maker.make();
        due.is(what, ask(x, call), answer);
        unchanged(due, what, x, maker.make(), parts);
        SkewRings again = maker.make();
        ask(again, call);
        return again;
    }

    static void unchanged(Due due, String what, SkewRings x, SkewRings twin, int but) {
        String[] got = parts(x);
        String[] want = parts(twin);
        for (int i = 0; i < NAMES.length; i++) {
            if ((but >> i & 1) == 1 || i == NAMES.length - 1 && but != 0) continue;
            due.holds(what + ": " + NAMES[i] + " stays " + want[i] + ", is " + got[i], got[i].equals(want[i]));
        }
    }

    /** Some 250 calls; the last of them read THE TEXT and tell PLACE 3 anew. */
    private static String[] parts(SkewRings x) {
        String[] s = new String[NAMES.length];
        for (int k = 0; k < 6; k++) s[k] = x.degree(k) + ":" + Due.at(x, k);
        s[6] = x.count(0) + " " + x.count(1) + " " + x.count(2) + " " + x.count(3);
        s[7] = row(x);
        s[8] = factors(x);
        int signs = x.count(7);
        s[9] = signs + " signs, " + x.tells(3) + ":" + Due.at(x, 3);
        s[10] = behind(x);
        return s;
    }

    private static String row(SkewRings x) {
        StringBuilder s = new StringBuilder().append(x.count(6));
        for (int i = -1; i <= x.count(6); i++) s.append(' ').append(Due.rowAt(x, i) == THROWS ? "-" : "" + Due.rowAt(x, i));
        return s.toString();
    }

    private static String factors(SkewRings x) {
        int many = x.count(5);
        StringBuilder s = new StringBuilder().append(many);
        for (int j = 0; j <= many + 1; j++) {
            long v = 0;
            for (int k = 0; v != THROWS; k++) {
                v = Due.factorAt(x, j, k);
                s.append(k == 0 ? " / " : " ").append(v == THROWS ? "-" : "" + v);
            }
        }
        return s.toString();
    }

    /** Calls that use most of what an object works with. */
    private static String behind(SkewRings x) {
        StringBuilder s = new StringBuilder();
        long[] answers = {x.like(0, 0), x.multiplies(0, 1, 3), x.roots(0), x.kernel(1), x.commuting(0), x.bound(0), x.ways(1),
            x.divisors(5, 1), x.steps(5, 1, 1), x.divisor(1, 5, 0, 3), x.multiple(0, 1, 1, 3), x.quotient(5, 0, 1, 3),
            x.vanishes(7, 3), x.cofactors(0, 5, 3, 4), x.factors(5), x.prime(0), x.likes(1), x.eigen(0), x.part(1, 3), x.primes(2)};
        for (long v : answers) s.append(v).append(' ');
        return s + row(x) + factors(x) + Due.at(x, 3) + " " + Due.at(x, 4);
    }
}
