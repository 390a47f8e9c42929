import java.util.ArrayList;
import java.util.List;

/** Runs of calls, the same on the class and on the model: answers, the ROW and the PLACES after each, all at the end. */
public final class AgainstModelTest {
    private static long seed;
    private static int wrong = 0;
    /** A step with all of its looks, and what stateDiffers() asks. */
    private static final int LAST_LOOK = 60 + 140;
    private static int calls;
    private static List<Long> rowSeen;
    private static final int[][] placesSeen = new int[6][];

    private static int below(int n) {
        seed = seed * 6364136223846793005L + 1442695040888963407L;
        return (int) ((seed >>> 33) % n);
    }

    public static void main(String[] args) {
        int runs = args.length > 0 ? Integer.parseInt(args[0]) : 400;
        int steps = 0;
        for (int run = 0; run < runs; run++) {
            seed = 77 + run;
            steps += play(run);
        }
        System.out.println(wrong == 0 ? steps + " steps answer as the model does" : wrong + " runs differ");
        if (wrong > 0) System.exit(1);
    }

    /** An object is used for at most 512 calls: what the last look at all of it needs is kept back. */
    private static int play(int run) {
        SkewRings x = new SkewRings();
        Model y = new Model();
        int kind = run % 4;
        StringBuilder log = new StringBuilder();
        calls = 0;
        rowSeen = List.of();
        if (kind > 0) compare(run, log.append("field ").append(kind), x.field(kind), y.field(kind), x, y);
        int steps = 0;
        while (calls < 512 - LAST_LOOK && steps < 512) {
            int before = wrong;
            step(run, log, x, y);
            if (wrong > before) return steps;
            steps++;
        }
        report(run, log, stateDiffers(x, y));
        return steps;
    }

    private static void report(int run, StringBuilder log, String differs) {
        if (differs == null) return;
        wrong++;
        int from = Math.max(0, log.length() - 900);
        System.out.println("run " + run + ": .." + log.substring(from) + " " + differs);
    }

    /** Looks at the answer, and at the ROW and the PLACES that the model has told anew. */
    private static void compare(int run, StringBuilder log, int got, int want, SkewRings x, Model y) {
        calls++;
        log.append(" = ").append(got).append("; ");
        String differs = got != want ? "due is " + want : rowDiffers(x, y);
        for (int k = 0; k < 6 && differs == null; k++) {
            if (y.places[k] != placesSeen[k]) differs = placeDiffers(x, y, k);
            placesSeen[k] = y.places[k];
        }
        report(run, log, differs);
    }

    private static String rowDiffers(SkewRings x, Model y) {
        calls++;
        if (x.count(6) != y.row.size()) return "count(6) is " + x.count(6) + ", due " + y.row.size();
        if (y.row.equals(rowSeen)) return null;
        rowSeen = new ArrayList<>(y.row);
        for (int i = 0; i < y.row.size(); i++) {
            calls++;
            if (x.row(i) != y.row.get(i)) return "row(" + i + ") is " + x.row(i) + ", due " + y.row.get(i);
        }
        return null;
    }

    private static String placeDiffers(SkewRings x, Model y, int i) {
        for (int k = 0; k < 9; k++) {
            calls++;
            if (x.number(i, k) != y.number(i, k)) return "number(" + i + ", " + k + ") is " + x.number(i, k) + ", due " + y.number(i, k);
        }
        return null;
    }

    private static String stateDiffers(SkewRings x, Model y) {
        for (int what = -1; what < 9; what++) {
            if (x.count(what) != y.count(what)) return "count(" + what + ") is " + x.count(what) + ", due " + y.count(what);
        }
        for (int i = -1; i <= y.row.size(); i++) {
            long got = Due.rowAt(x, i);
            long want = i < 0 || i == y.row.size() ? Long.MIN_VALUE : y.row.get(i);
            if (got != want) return "row(" + i + ") is " + got + ", due " + want;
        }
        for (int i = 0; i < 6; i++) {
            String differs = placeDiffers(x, y, i);
            if (differs != null) return differs;
        }
        for (int j = 0; j <= 5; j++) {
            for (int k = -1; k < 6; k++) {
                long got = Due.factorAt(x, j, k);
                long want = y.factor(j, k) < 0 ? Long.MIN_VALUE : y.factor(j, k);
                if (got != want) return "factor(" + j + ", " + k + ") is " + got + ", due " + want;
            }
        }
        return null;
    }

    private static int place() { return below(60) == 0 ? (below(2) == 0 ? -1 : 6) : below(6); }

    private static int side() { return below(40) == 0 ? (below(2) == 0 ? -1 : 2) : below(2); }

    private static int number(Model y) { return below(50) == 0 ? (below(2) == 0 ? -1 : y.q) : below(y.q); }

    private static String polynomial(Model y) {
        StringBuilder s = new StringBuilder();
        int n = below(8) == 0 ? 1 + below(9) : 1 + below(y.q > 8 ? 4 : 5);
        int plain = below(4);
        for (int k = 0; k < n; k++) {
            if (k > 0) s.append(',');
            int v = below(3) == 0 ? below(2) : plain == 0 ? below(y.p) : below(y.q);
            if (below(20) == 0 && v < 10) s.append('0');
            s.append(v);
        }
        return s.toString();
    }

    private static String couples(Model y) {
        StringBuilder s = new StringBuilder();
        int n = 1 + below(6);
        int a = 0;
        for (int k = 0; k < n; k++) {
            if (k > 0) s.append(',');
            a = below(12) == 0 ? below(y.q) : (a + 1 + below(2)) % y.q;
            s.append(a).append(':').append(below(y.q));
        }
        return s.toString();
    }

    private static String spoiled(String s) {
        StringBuilder b = new StringBuilder(s);
        int at = below(b.length() + 1);
        String signs = "0123456789,: x\0";
        char c = signs.charAt(below(signs.length()));
        if (below(3) == 0 && at < b.length()) b.setCharAt(at, c);
        else if (below(2) == 0 && at < b.length()) b.deleteCharAt(at);
        else b.insert(at, c);
        return b.toString();
    }

    private static void write(int run, StringBuilder log, String s, SkewRings x, Model y) {
        int n = y.text.length() + s.length();
        for (int i = 0; i < s.length(); i += 4) {
            int v = 0;
            for (int k = 0; k < 4; k++) v = v << 8 | (i + k < s.length() ? s.charAt(i + k) : below(256));
            int got = x.sign(v);
            int want = y.sign(v);
            calls++;
            if (got != want) report(run, log, "sign(" + v + ") = " + got + ", due is " + want);
        }
        compare(run, log.append("text ").append(s), x.end(n) ? 1 : 0, y.end(n) ? 1 : 0, x, y);
    }

    private static void step(int run, StringBuilder log, SkewRings x, Model y) {
        int call = below(64);
        int i = place(), j = place(), k = place(), l = place(), s = side(), a = number(y);
        log.append(call).append(" i").append(i).append(" j").append(j).append(" k").append(k).append(" l").append(l)
            .append(" s").append(s).append(" a").append(a);
        int t = below(19) - 9;
        int set = below(40) == 0 ? (below(2) == 0 ? -1 : 1 << y.q) : below(1 << y.q) & (below(2) == 0 ? below(1 << y.q) : -1);
        int got, want;
        switch (call) {
            case 0: if (below(12) != 0) return; t = below(6) - 1; got = x.field(t); want = y.field(t); break;
            case 1: got = x.plus(a, l); want = y.plus(a, l); break;
            case 2: got = x.times(a, l); want = y.times(a, l); break;
            case 3: got = x.inverse(a); want = y.inverse(a); break;
            case 4: got = x.map(a, t); want = y.map(a, t); break;
            case 5: got = x.norm(a, t); want = y.norm(a, t); break;
            case 6: got = x.conjugates(a); want = y.conjugates(a); break;
            case 7: got = x.classes(); want = y.classes(); break;
            case 8: write(run, log, "1x", x, y); got = x.end(t) ? 1 : 0; want = y.end(t) ? 1 : 0; break;
            case 9: write(run, log, spoiled(polynomial(y)), x, y); got = x.tells(k); want = y.tells(k); break;
            case 10: got = x.degree(i); want = y.degree(i); break;
            case 11: got = x.number(i, t); want = y.number(i, t); break;
            case 12: got = x.adds(i, j, k); want = y.adds(i, j, k); break;
            case 13: got = x.takes(i, j, k); want = y.takes(i, j, k); break;
            case 14: got = x.scales(a, i, k); want = y.scales(a, i, k); break;
            case 15: got = x.multiplies(i, j, k); want = y.multiplies(i, j, k); break;
            case 16: got = x.quotient(i, j, s, k); want = y.quotient(i, j, s, k); break;
            case 17: got = x.remainder(i, j, s, k); want = y.remainder(i, j, s, k); break;
            case 18: got = x.divisor(i, j, s, k); want = y.divisor(i, j, s, k); break;
            case 19: got = x.multiple(i, j, s, k); want = y.multiple(i, j, s, k); break;
            case 20: got = x.steps(i, j, s); want = y.steps(i, j, s); break;
            case 21: got = x.crosses(i, j, k); want = y.crosses(i, j, k); break;
            case 22: got = x.maps(i, t, k); want = y.maps(i, t, k); break;
            case 23: got = x.monic(i); want = y.monic(i); break;
            case 24: t = below(6) - 1; got = x.form(i, t); want = y.form(i, t); break;
            case 25: got = x.same(i, j); want = y.same(i, j); break;
            case 26: t = t < 0 ? -t / 3 : t; got = x.power(i, t, k); want = y.power(i, t, k); break;
            case 27: got = x.turned(a, i, k); want = y.turned(a, i, k); break;
            case 28: got = x.cofactors(i, j, k, l); want = y.cofactors(i, j, k, l); break;
            case 29: write(run, log, couples(y), x, y); got = x.fits(k); want = y.fits(k); break;
            case 30: write(run, log, spoiled(couples(y)), x, y); got = x.fits(k); want = y.fits(k); break;
            case 31: got = x.value(i, a); want = y.value(i, a); break;
            case 32: got = x.roots(i); want = y.roots(i); break;
            case 33: got = x.does(i, a); want = y.does(i, a); break;
            case 34: got = x.kernel(i); want = y.kernel(i); break;
            case 35: got = x.solves(i, a); want = y.solves(i, a); break;
            case 36: got = x.reaches(i); want = y.reaches(i); break;
            case 37: got = x.basis(set); want = y.basis(set); break;
            case 38: got = x.shares(i, j); want = y.shares(i, j); break;
            case 39: got = x.eigen(i); want = y.eigen(i); break;
            case 40: got = x.vanishes(set, k); want = y.vanishes(set, k); break;
            case 41: t = below(6) - 1; got = x.divisors(i, t); want = y.divisors(i, t); break;
            case 42: got = x.prime(i); want = y.prime(i); break;
            case 43: got = x.factors(i); want = y.factors(i); break;
            case 44: got = x.ways(i); want = y.ways(i); break;
            case 45: if (y.q > 8 && y.degree(i) == 2 && below(3) > 0) return; got = x.likes(i); want = y.likes(i); break;
            case 46: if (y.q > 8 && y.degree(i) > 3) return; got = x.like(i, j); want = y.like(i, j); break;
            case 47: got = x.commuting(i); want = y.commuting(i); break;
            case 48: got = x.central(i); want = y.central(i); break;
            case 49: got = x.bound(i); want = y.bound(i); break;
            case 50: got = x.part(i, k); want = y.part(i, k); break;
            case 51: t = below(4); got = x.primes(t); want = y.primes(t); break;
            case 52: if (y.degree(i) > 0 && y.degree(i) < 5) { t = 1 + below(y.q - 1); got = x.turned(t, i, k); want = y.turned(t, i, k); compare(run, log, got, want, x, y); }
                if (y.q > 8 && y.degree(i) > 3) return; got = x.like(i, k); want = y.like(i, k); break;
            default: write(run, log, polynomial(y), x, y); got = x.tells(k); want = y.tells(k); break;
        }
        compare(run, log, got, want, x, y);
    }
}
