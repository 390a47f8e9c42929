import java.util.ArrayList;
import java.util.Arrays;
import java.util.List;

/**
 * What the document calls the greatest, the least, the first, or the one that there is: all that might be it are tried,
 * with no arithmetic but the Model's, as the part "Terms" defines the word.
 */
public final class DefinitionTest {
    private static final Due due = new Due();
    private static final int[] Q = {4, 8, 9, 16};
    /** How great the DEGREES of two may be in all, so that what there is can be tried. */
    private static final int[] MOST = {5, 4, 3, 3};
    private static long seed = 11;

    public static void main(String[] args) {
        for (int f = 0; f < 4; f++) {
            for (int side = 0; side < 2; side++) {
                for (int n = 0; n < 12; n++) twoOf(f, side);
            }
            for (int n = 0; n < 12; n++) {
                fits(f);
                vanishes(f);
            }
            centralOnes(f);
        }
        due.finish("DefinitionTest");
    }

    private static int below(int n) {
        seed = seed * 6364136223846793005L + 1442695040888963407L;
        return (int) ((seed >>> 33) % n);
    }

    private static Model model(int f) {
        Model y = new Model();
        y.field(f);
        return y;
    }

    private static int[] polynomial(Model y, int degree) {
        int[] a = new int[degree + 1];
        for (int k = 0; k < degree; k++) a[k] = below(y.q);
        a[degree] = 1 + below(y.q - 1);
        return a;
    }

    private static String text(int[] a) {
        StringBuilder s = new StringBuilder();
        for (int k = 0; k < a.length; k++) s.append(k > 0 ? "," : "").append(a[k]);
        return a.length == 0 ? "0" : s.toString();
    }

    private static int[] at(SkewRings x, int place) {
        int[] a = new int[x.degree(place) + 1];
        for (int k = 0; k < a.length; k++) a[k] = x.number(place, k);
        return a;
    }

    /** Two that share a divisor of DEGREE 1 or 2 as often as not. */
    private static void twoOf(int f, int side) {
        Model y = model(f);
        int[] shared = polynomial(y, below(3));
        int n = 1 + below(MOST[f] - 2);
        int[] a = polynomial(y, Math.max(0, n - Model.deg(shared)));
        int[] b = polynomial(y, Math.max(0, MOST[f] - n - Model.deg(shared)));
        a = side == 0 ? y.mul(a, shared) : y.mul(shared, a);
        b = side == 0 ? y.mul(b, shared) : y.mul(shared, b);
        SkewRings x = Due.fresh(f, text(a), text(b));
        String what = "FIELD " + f + " SIDE " + side + ": " + text(a) + " and " + text(b);
        due.holds("P21 " + what, x.divisor(0, 1, side, 2) >= 0);
        divisor("P21 'the MONIC one of greatest DEGREE that DIVIDES both there' " + what, y, a, b, side, at(x, 2));
        due.holds("P22 " + what, x.multiple(0, 1, side, 3) >= 0);
        multiple("P22 'the MONIC one of least DEGREE, not 0, that both DIVIDE there' " + what, y, a, b, side, at(x, 3));
    }

    private static void divisor(String what, Model y, int[] a, int[] b, int side, int[] got) {
        for (int d = Math.min(Model.deg(a), Model.deg(b)); d >= 0; d--) {
            List<int[]> found = new ArrayList<>();
            for (int[] c : y.monics(d)) if (y.divides(c, a, side) && y.divides(c, b, side)) found.add(c);
            if (!found.isEmpty()) {
                only(what, found, got);
                return;
            }
        }
        due.holds(what + ": there is one", false);
    }

    private static void multiple(String what, Model y, int[] a, int[] b, int side, int[] got) {
        for (int d = Math.max(Model.deg(a), Model.deg(b)); d <= Model.deg(a) + Model.deg(b); d++) {
            List<int[]> found = new ArrayList<>();
            for (int[] c : y.monics(d)) if (y.divides(a, c, side) && y.divides(b, c, side)) found.add(c);
            if (!found.isEmpty()) {
                only(what, found, got);
                return;
            }
        }
        due.holds(what + ": there is one", false);
    }

    private static void only(String what, List<int[]> found, int[] got) {
        due.is(what + ": there is one such", found.size(), 1);
        due.holds(what + ": " + text(found.get(0)) + " is due, not " + text(got), Arrays.equals(found.get(0), got));
    }

    /** "the one of least DEGREE (there is one such, if any) that has VALUE v at a, for all of them" */
    private static void fits(int f) {
        Model y = model(f);
        int many = 1 + below(3);
        int[] points = new int[many];
        int[] wanted = new int[many];
        StringBuilder couples = new StringBuilder();
        int first = below(y.q);
        for (int n = 0; n < many; n++) {
            points[n] = (first + n * (1 + y.q / 5)) % y.q;
            wanted[n] = below(y.q);
            couples.append(n > 0 ? "," : "").append(points[n]).append(':').append(wanted[n]);
        }
        // What has given VALUES at n NUMBERS is, less what is 0 at all of them, of a DEGREE below n.
        List<int[]> found = new ArrayList<>();
        if (matches(y, new int[0], points, wanted)) found.add(new int[0]);
        for (int[] a : y.below(many)) {
            if (!found.isEmpty() && Model.deg(a) > Model.deg(found.get(0))) break;
            if (matches(y, a, points, wanted)) found.add(a);
        }
        SkewRings x = Due.fresh(f, "1,1");
        Due.text(x, couples.toString());
        String what = "P32 FIELD " + f + " " + couples;
        int got = x.fits(0);
        if (found.isEmpty()) {
            due.is(what + ": none has", got, -3);
            due.place(what + ": none has", x, 0, "1,1");
        } else {
            due.is(what, got, Model.deg(found.get(0)));
            only(what, found, at(x, 0));
        }
    }

    private static boolean matches(Model y, int[] a, int[] points, int[] wanted) {
        for (int n = 0; n < points.length; n++) if (y.value(a, points[n]) != wanted[n]) return false;
        return true;
    }

    /** "the MONIC one of least DEGREE (1 of an empty set) whose VALUE is 0 at all NUMBERS of a set" */
    private static void vanishes(int f) {
        Model y = model(f);
        int set = 0;
        for (int n = below(4); n > 0; n--) set |= 1 << below(y.q);
        SkewRings x = Due.fresh(f, "2,1");
        int got = x.vanishes(set, 0);
        String what = "P42 FIELD " + f + " set " + set;
        for (int d = 0; d <= 3; d++) {
            List<int[]> found = new ArrayList<>();
            for (int[] a : y.monics(d)) if ((set & ~y.roots(a)) == 0) found.add(a);
            if (found.isEmpty()) continue;
            due.is(what, got, d);
            only(what, found, at(x, 0));
            due.row(what, x, y.roots(found.get(0)));
            return;
        }
        due.holds(what + ": there is one", false);
    }

    /** "A so that A X is X A for all X": X a NUMBER or t, since all others are sums of PRODUCTS of these. */
    private static void centralOnes(int f) {
        Model y = model(f);
        for (int n = 0; n < 400; n++) {
            int[] a = new int[1 + below(9)];
            for (int k = 0; k < a.length; k++) {
                boolean may = k % y.m == 0 || below(9) == 0;
                a[k] = !may ? 0 : below(7) == 0 ? below(y.q) : below(y.p);
            }
            int[] b = Model.trim(a);
            boolean passes = Arrays.equals(y.mul(b, new int[] {0, 1}), y.mul(new int[] {0, 1}, b));
            for (int c = 1; c < Q[f]; c++) passes &= Arrays.equals(y.mul(b, new int[] {c}), y.mul(new int[] {c}, b));
            due.is("P51 FIELD " + f + " " + text(b), Due.fresh(f, text(b)).central(0), passes ? 1 : 0);
        }
    }
}
