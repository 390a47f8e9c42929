/** Promises 43 to 54: divisors of a degree, factors, likeness, and what commutes with all. */
public final class DivisorTest {
    private static final Due due = new Due();

    public static void main(String[] args) {
        divisors();
        divisorsBySearch();
        primes();
        factors();
        factorsEverywhere();
        ways();
        likes();
        like();
        commuting();
        central();
        bounds();
        parts();
        primesOfDegree();
        due.finish("DivisorTest");
    }

    private interface Call {
        int on(SkewRings x, int place);
    }

    /** -2 of 0, -3 of DEGREE 5 and more, NONE of no PLACE; the ROW, the PLACES and FACTORS stay. */
    private static void refuses(String what, boolean aboveFour, Call call) {
        SkewRings x = Due.fresh(0, "0", "0,0,0,0,0,1", "1,1,1,1,1,1,1,1,1", "2,1");
        x.factors(3);
        x.roots(3);
        String before = Due.state(x);
        due.is(what + " of 0", call.on(x, 0), -2);
        if (aboveFour) {
            due.is(what + " of DEGREE 5", call.on(x, 1), -3);
            due.is(what + " of DEGREE 8", call.on(x, 2), -3);
        }
        due.is(what + " no such PLACE", call.on(x, 6), -1);
        due.is(what + " no such PLACE", call.on(x, -1), -1);
        due.holds(what + " refused: nothing is changed", Due.state(x).equals(before));
    }

    private static void divisors() {
        SkewRings x = Due.fresh(0, "1,0,1", "2,1", "0,0,0,0,3", "1,0,0,0,1", "3", "1,0,0,1");
        due.is("P43 of t t + 1", x.divisors(0, 1), 3);
        due.row("P43", x, 1, 1);
        due.is("P43 of its own DEGREE", x.divisors(0, 2), 1);
        due.row("P43", x, 1, 0, 1);
        due.is("P43 above its DEGREE", x.divisors(0, 3), 0);
        due.row("P43 above its DEGREE", x);
        due.is("P43 of a number", x.divisors(4, 1), 0);
        due.row("P43 of a number", x);
        for (int d = 1; d <= 3; d++) {
            due.is("P43 of 3 t^4", x.divisors(2, d), 1);
            due.is("P43 of 3 t^4", Due.rowAt(x, d), 1);
            due.is("P43 of 3 t^4", Due.rowAt(x, 0), 0);
        }
        // t^4 + 1 is (t t + 1) twice: each ROOT of t t + 1 is one of it, and there are no others.
        due.is("P43 of t^4 + 1", x.divisors(3, 1), 3);
        due.row("P43", x, 1, 1);
        due.is("P43 of t^4 + 1", x.divisors(3, 2), 7);
        due.row("P43 the first by ORDER", x, 1, 0, 1);
        due.is("P43 of t^4 + 1", x.divisors(3, 3), 3);
        due.row("P43", x, 1, 1, 1, 1);
        due.is("P43 another d", x.divisors(0, 4), -1);
        due.is("P43 another d", x.divisors(0, 0), -1);
        due.is("P43 another d goes ahead", x.divisors(9, -1), -1);
        due.row("P43 refused", x, 1, 1, 1, 1);
        for (int d = 1; d <= 3; d++) {
            int degree = d;
            refuses("P43", true, (y, i) -> y.divisors(i, degree));
        }
        SkewRings z = Due.fresh(0, "0");
        due.is("P43 another d goes ahead of 0", z.divisors(0, 4), -1);
        SkewRings s = Due.fresh(3, "1,0,0,0,1");
        int[] want = {15, 35, 15};
        for (int d = 1; d <= 3; d++) due.is("P43 t^4 + 1 over 16: parts of four places", s.divisors(0, d), want[d - 1]);
    }

    /** By remainder() for all of a degree by ORDER: how many leave nothing, and the first of these. */
    private static void divisorsBySearch() {
        for (int n = 0; n < 90; n++) {
            int f = n % 3;
            int q = new int[] {4, 8, 9}[f];
            SkewRings x = Due.fresh(f, n * 3 % q + "," + n * 5 % q + "," + n * 7 % q + "," + (1 + n % (q - 1)), (n + 1) % q + ",1");
            if (n % 2 == 1 && f == 0) x.multiplies(0, 1, 0);
            for (int d = 1; d <= 3; d++) {
                int most = d == 1 ? q : d == 2 ? q * q : f == 0 ? q * q * q : 0;
                String first = "";
                int many = 0;
                for (int code = 0; code < most; code++) {
                    if (code % 30 == 29) x = Due.fresh(f, Due.at(x, 0));
                    String b = d == 1 ? code + ",1" : d == 2 ? code % q + "," + code / q + ",1" : code % q + "," + code / q % q + "," + code / q / q + ",1";
                    Due.put(x, 2, b);
                    x.remainder(0, 2, 0, 3);
                    if (x.degree(3) >= 0) continue;
                    if (many == 0) first = b;
                    many++;
                }
                if (most == 0) continue;
                due.is("P43 " + Due.at(x, 0) + " by search, DEGREE " + d, x.divisors(0, d), many);
                StringBuilder told = new StringBuilder();
                for (int k = 0; k < x.count(6); k++) told.append(k > 0 ? "," : "").append(Due.rowAt(x, k));
                due.holds("P43 " + Due.at(x, 0) + " first by ORDER: " + told + ", due is " + first, told.toString().equals(first));
            }
        }
    }

    private static void primes() {
        SkewRings x = Due.fresh(0, "1,0,1", "2,1", "3", "2,1,1", "1,1,0,1", "1,0,1,1");
        due.is("P44 t t + 1", x.prime(0), 0);
        due.is("P44 t + 2", x.prime(1), 1);
        due.is("P44 a number", x.prime(2), 0);
        due.is("P44 t t + t + 2", x.prime(3), x.roots(3) == 0 ? 1 : 0);
        due.is("P44 t t t + t + 1: its bound is of DEGREE 3", x.prime(4), 1);
        refuses("P44", true, SkewRings::prime);
        for (int f = 0; f < 4; f++) {
            int many = 0;
            int q = new int[] {4, 8, 9, 16}[f];
            SkewRings y = Due.fresh(f);
            for (int a = 0; a < q; a++) {
                y = Due.fresh(f);
                for (int b = 0; b < q; b++) {
                    Due.put(y, 0, a + "," + b + ",1");
                    due.is("P44 of DEGREE 2: no ROOT", y.prime(0), y.roots(0) == 0 ? 1 : 0);
                    many += y.prime(0);
                }
            }
            due.is("P54 primes(2)", y.primes(2), many);
        }
    }

    private static void factors() {
        SkewRings x = Due.fresh(0, "1,0,1", "0,0,0,3", "2", "2,1");
        due.is("P45 t t + 1", x.factors(0), 2);
        due.row("P45 t t + 1", x, 1, 1, 1);
        due.is("P45 FACTORS", x.count(5), 2);
        due.is("P46", Due.factorAt(x, 1, 0), 1);
        due.is("P46", Due.factorAt(x, 1, 1), 1);
        due.is("P46", Due.factorAt(x, 2, 0), 1);
        due.is("P46 k 2", Due.factorAt(x, 1, 2), Long.MIN_VALUE);
        due.is("P46 k -1", Due.factorAt(x, 1, -1), Long.MIN_VALUE);
        due.is("P46 j 3", Due.factorAt(x, 3, 0), Long.MIN_VALUE);
        due.is("P46 j 0", Due.factorAt(x, 0, 0), Long.MIN_VALUE);
        due.is("P46 j -1", Due.factorAt(x, -1, 0), Long.MIN_VALUE);
        due.is("P45 3 t t t", x.factors(1), 3);
        due.row("P45 3 t t t", x, 3, 1, 1, 1);
        due.is("P45 of 0", x.factors(4), -2);
        due.is("P46 the latest that was not refused", Due.factorAt(x, 3, 0), 0);
        due.is("P45 of a number", x.factors(2), 0);
        due.row("P45 of a number", x, 2);
        due.is("P46 of a number", Due.factorAt(x, 1, 0), Long.MIN_VALUE);
        due.is("P45 of a prime", x.factors(3), 1);
        due.row("P45 of a prime", x, 1, 1);
        x.takes(3, 3, 3);
        due.is("P46 stays with the PLACE told anew", Due.factorAt(x, 1, 0), 2);
        refuses("P45", true, SkewRings::factors);
        // (t + 3) t: the ROOTS of the product are 0 and maybe others; the last is t, as the first by ORDER.
        SkewRings y = Due.fresh(3, "3,1", "0,7");
        y.multiplies(0, 1, 2);
        due.is("P45", y.factors(2), 2);
        due.row("P45 LEADING", y, y.form(2, 0), 1, 1);
        due.is("P46 the last is t", Due.factorAt(y, 2, 0), 0);
    }

    /** LEADING times the FACTORS in their order is what was asked, each is prime, and the last is the first divisor. */
    private static void factorsEverywhere() {
        int[] q = {4, 8, 9, 16};
        for (int f = 0; f < 4; f++) {
            for (int n = 0; n < 60; n++) {
                String s = n % q[f] + "," + n * 7 % q[f] + "," + n * 5 % q[f] + "," + n / 3 % q[f] + "," + (1 + n % (q[f] - 1));
                SkewRings x = Due.fresh(f, s);
                int many = x.factors(0);
                due.is("P45 LEADING", Due.rowAt(x, 0), x.number(0, 4));
                Due.put(x, 1, "" + x.number(0, 4));
                for (int j = 1; j <= many; j++) {
                    StringBuilder factor = new StringBuilder();
                    for (int k = 0; Due.factorAt(x, j, k) != Long.MIN_VALUE; k++) factor.append(k > 0 ? "," : "").append(Due.factorAt(x, j, k));
                    int degree = Due.put(x, 2, factor.toString());
                    due.is("P45 prime", x.prime(2), 1);
                    due.is("P45 MONIC", x.form(2, 0), 1);
                    due.holds("P45 told of its own DEGREE", x.degree(2) == degree);
                    x.multiplies(1, 2, 1);
                }
                due.place("P45 field " + f, x, 1, s);
                boolean first = x.divisors(0, x.degree(2)) > 0;
                for (int k = 0; k < x.degree(2); k++) first &= Due.rowAt(x, k) == x.number(2, k);
                due.holds("P45 the last is the first by ORDER", x.degree(2) == 4 || first);
            }
        }
    }

    private static void ways() {
        SkewRings x = Due.fresh(0, "1,0,1", "3", "0,0,0,0,2", "2,1", "1,0,0,0,1");
        due.is("P47 t t + 1", x.ways(0), 3);
        due.is("P47 a number", x.ways(1), 1);
        due.is("P47 2 t^4", x.ways(2), 1);
        due.is("P47 t + 2", x.ways(3), 1);
        SkewRings p = Due.fresh(0, "1,1,0,1", "1,0,1,0,1");
        due.is("P47 a prime of DEGREE 3", p.ways(0), 1);
        due.is("P47 1 + t t + t^4: quadratic primes alone", p.ways(1), 5);
        // Three ROOTS; behind each is left (t t + 1)(t + a), which has one ROOT of three, .. : by search.
        due.is("P47 t^4 + 1", x.ways(4), waysBySearch(x, 4));
        SkewRings s = Due.fresh(3, "1,0,0,0,1");
        due.is("P47 t^4 + 1 over 16: rows of parts", s.ways(0), 15 * 7 * 3);
        SkewRings e = Due.fresh(1, "1,0,0,1");
        due.is("P47 t^3 + 1 over 8", e.ways(0), 7 * 3);
        SkewRings n = Due.fresh(2, "2,0,1", "1,0,1", "2,0,0,0,1");
        due.is("P47 t t - 1 over 9", n.ways(0), 4);
        due.is("P47 t t + 1 over 9", n.ways(1), 4);
        due.is("P47 (t t - 1)(t t + 1) over 9", n.ways(2), 4 * 4 * 6);
        refuses("P47", true, SkewRings::ways);
    }

    /** With linear primes alone: one of each ROOT, then what is left. */
    private static int waysBySearch(SkewRings x, int place) {
        SkewRings y = Due.fresh(x.count(0), Due.at(x, place));
        if (y.degree(0) == 0) return 1;
        int sum = 0;
        for (int a = 0; a < y.count(1); a++) {
            if (y.value(0, a) != 0) continue;
            Due.put(y, 1, y.times(a, y.count(2) - 1) + ",1");
            y.quotient(0, 1, 0, 2);
            sum += waysBySearch(y, 2);
        }
        return sum;
    }

    private static void likes() {
        SkewRings x = Due.fresh(0, "2,1", "0,1", "1,0,1", "3", "0,0,1", "1,1,1");
        due.is("P48 t + 2: its class", x.likes(0), 3);
        due.is("P48 t", x.likes(1), 1);
        due.is("P48 t t + 1: alone", x.likes(2), 1);
        due.is("P48 a number", x.likes(3), -3);
        due.is("P48 t t", x.likes(4), 1);
        Due.put(x, 3, "0,0,0,1");
        due.is("P48 DEGREE 3", x.likes(3), -3);
        Due.put(x, 3, "0,0,0,0,1");
        due.is("P48 DEGREE 4", x.likes(3), -3);
        refuses("P48", true, SkewRings::likes);
        int[] q = {4, 8, 9, 16};
        for (int f = 0; f < 4; f++) {
            for (int n = 0; n < 12; n++) {
                SkewRings y = Due.fresh(f, n % q[f] + "," + n * 5 % q[f] + "," + (1 + n % (q[f] - 1)));
                int many = 0;
                for (int code = 0; code < q[f] * q[f]; code++) {
                    if (code % 50 == 49) y = Due.fresh(f, Due.at(y, 0));
                    Due.put(y, 1, code % q[f] + "," + code / q[f] + ",1");
                    many += y.like(0, 1);
                }
                due.is("P48 as like() says, field " + f + " " + n, y.likes(0), many);
            }
            for (int a = 0; a < q[f]; a++) {
                SkewRings y = Due.fresh(f, a + "," + (q[f] - 1));
                int root = Integer.numberOfTrailingZeros(y.roots(0));
                y.conjugates(root);
                due.is("P48 of DEGREE 1: the conjugates", y.likes(0), Due.rowAt(y, 0));
            }
        }
    }

    private static void like() {
        SkewRings x = Due.fresh(0, "2,1", "3,1", "0,1", "0,3", "1,0,1", "0,0,1");
        due.is("P49", x.like(0, 1), 1);
        due.row("P49 the WAY", x, 3);
        due.is("P49 itself", x.like(0, 0), 1);
        due.row("P49 itself", x, 1);
        due.is("P49 unlike", x.like(0, 2), 0);
        due.row("P49 unlike", x);
        due.is("P49 t and 3 t", x.like(2, 3), 1);
        due.row("P49 t and 3 t", x, 1);
        due.is("P49 t t + 1 and t t", x.like(4, 5), 0);
        due.is("P49 unlike DEGREES", x.like(0, 4), -4);
        Due.put(x, 3, "2");
        due.is("P49 DEGREES 0", x.like(3, 3), -4);
        due.is("P49 DEGREES 0 and 1", x.like(3, 0), -4);
        Due.put(x, 2, "1,0,0,0,0,1");
        due.is("P49 DEGREE 5", x.like(2, 0), -3);
        due.is("P49 DEGREE 5", x.like(0, 2), -3);
        due.is("P49 DEGREES 5", x.like(2, 2), -3);
        Due.put(x, 3, "0");
        due.is("P49 0 goes ahead", x.like(3, 2), -2);
        due.is("P49 0 goes ahead", x.like(2, 3), -2);
        due.is("P49 no such PLACE goes ahead", x.like(3, 6), -1);
        due.is("P49 no such PLACE", x.like(-1, 0), -1);
        due.row("P49 refused", x);
        turnedAreLike();
    }

    /** A U is Q B and U leaves 1 with B: for what is turned, and for all that stand ahead of their multiple. */
    private static void turnedAreLike() {
        int[] q = {4, 8, 9, 16};
        for (int f = 0; f < 4; f++) {
            for (int n = 1; n < 20; n++) {
                SkewRings x = Due.fresh(f, n % q[f] + "," + n * 3 % q[f] + "," + n * 5 % q[f] + "," + n * 7 % q[f] + ",1", (n + 1) % q[f] + ",1");
                x.multiple(0, 1, 0, 2);
                if (x.degree(2) != 5) continue;
                x.quotient(2, 1, 0, 3);
                due.is("P49 the part ahead of t + u, and A", x.like(0, 3), x.like(3, 0));
                due.is("P49 the multiple by t + u ahead of it", x.like(3, 0), 1);
                StringBuilder u = new StringBuilder();
                for (int k = 0; k < 4; k++) u.append(k > 0 ? "," : "").append(Due.rowAt(x, k));
                due.is("P49 four numbers", x.count(6), 4);
                Due.put(x, 4, u.toString());
                due.is("P49 the DIVISOR is 1", x.divisor(4, 0, 0, 5), 0);
                if (x.multiplies(3, 4, 5) >= 0) due.is("P49 B DIVIDES A U", x.remainder(5, 0, 0, 5), -1);
            }
        }
    }

    private static void commuting() {
        SkewRings x = Due.fresh(0, "2,1", "1,0,1", "0,0,0,1", "0,1", "3", "0,0,0,0,1");
        due.is("P50 t + 2", x.commuting(0), 2);
        due.row("P50 t + 2", x, 1);
        due.is("P50 t t + 1: all", x.commuting(1), 16);
        due.row("P50 t t + 1: maps of two places", x, 6);
        due.is("P50 t t t: all", x.commuting(2), 64);
        due.row("P50 t t t: those with a0", x, 48);
        due.is("P50 t", x.commuting(3), 4);
        due.row("P50 t", x, 3);
        due.is("P50 a number", x.commuting(4), -3);
        due.is("P50 DEGREE 4", x.commuting(5), -3);
        due.row("P50 refused", x, 3);
        refuses("P50", true, SkewRings::commuting);
        SkewRings s = Due.fresh(1, "1,0,0,1");
        due.is("P50 t t t + 1 over 8: all", s.commuting(0), 512);
        due.row("P50 t t t + 1 over 8: maps of three places", s, 168);
        SkewRings n = Due.fresh(2, "2,0,1", "1,1");
        due.is("P50 t t - 1 over 9", n.commuting(0), 81);
        due.row("P50 t t - 1 over 9", n, 48);
        due.is("P50 t + 1 over 9", n.commuting(1), 3);
        due.row("P50 t + 1 over 9", n, 2);
    }

    private static void central() {
        SkewRings x = Due.fresh(0, "1,0,1", "2,0,1", "1,1", "0", "1", "2");
        int[] want = {1, 0, 0, 1, 1, 0};
        for (int i = 0; i < 6; i++) due.is("P51 " + Due.at(x, i), x.central(i), want[i]);
        Due.put(x, 0, "1,0,0,0,1,0,0,0,1");
        due.is("P51 DEGREE 8", x.central(0), 1);
        Due.put(x, 0, "1,0,0,0,1,0,0,1");
        due.is("P51 DEGREE 7", x.central(0), 0);
        due.is("P51 no such PLACE", x.central(6), -1);
        due.is("P51 no such PLACE", x.central(-1), -1);
        SkewRings s = Due.fresh(3, "1,0,0,0,1", "1,0,1", "1,0,0,0,2");
        due.is("P51 over 16", s.central(0), 1);
        due.is("P51 over 16", s.central(1), 0);
        due.is("P51 over 16", s.central(2), 0);
        SkewRings e = Due.fresh(1, "1,0,0,1,0,0,1", "1,0,1");
        due.is("P51 over 8", e.central(0), 1);
        due.is("P51 over 8", e.central(1), 0);
        SkewRings n = Due.fresh(2, "2,0,1,0,2", "3,0,1");
        due.is("P51 over 9", n.central(0), 1);
        due.is("P51 over 9", n.central(1), 0);
    }

    private static void bounds() {
        SkewRings x = Due.fresh(0, "2,1", "3", "0,0,0,2", "1,0,1,0,1");
        due.is("P52 t + 2", x.bound(0), 1);
        due.row("P52 t + 2", x, 1, 1);
        due.is("P52 a number", x.bound(1), 0);
        due.row("P52 a number", x, 1);
        due.is("P52 2 t t t", x.bound(2), 2);
        due.row("P52 2 t t t", x, 0, 0, 1);
        due.is("P52 a central one", x.bound(3), 2);
        due.row("P52 a central one", x, 1, 1, 1);
        SkewRings z = Due.fresh(0, "0");
        due.is("P52 of 0", z.bound(0), -2);
        due.is("P52 no such PLACE", z.bound(6), -1);
        due.is("P52 no such PLACE", z.bound(-1), -1);
        refuses("P52", false, SkewRings::bound);
        SkewRings n = Due.fresh(2, "1,1", "3,1", "5,0,1");
        due.is("P52 t + 1 over 9", n.bound(0), 1);
        due.row("P52 t + 1 over 9", n, 2, 1);
        due.is("P52 t + 3 over 9", n.bound(1), 1);
        due.row("P52 t + 3 over 9: norm 2 of it", n, 1, 1);
        due.is("P52 t t + 5: the norm of y + 5", n.bound(2), 2);
        due.row("P52 t t + 5", n, n.norm(5, 2), n.plus(5, n.map(5, 1)), 1);
        SkewRings h;
        int eights = 0;
        for (int i = 0; i < 40; i++) {
            h = Due.fresh(0);
            Due.put(h, 0, "1," + i % 4 + "," + i / 4 % 4 + "," + i % 3 + ",2," + i % 2 + ",0,3,1");
            if (h.bound(0) != 8) continue;
            eights++;
            due.is("P52 DEGREE 8: numbers of the ROW", h.count(6), 9);
            due.is("P52 DEGREE 8: MONIC", Due.rowAt(h, 8), 1);
            due.is("P52 DEGREE 8: at t^0 what a0 has as norm", Due.rowAt(h, 0), h.norm(h.number(0, 0), 2));
        }
        due.holds("P52 there are some of DEGREE 8", eights > 0);
        // Of DEGREE 8 over 16 it goes up to t^32: what it DIVIDES is told by the ROW, and by what t^4 leaves.
        SkewRings s = Due.fresh(3, "7,3,0,9,1,1,2,14,1");
        int d = s.bound(0);
        due.holds("P52 of DEGREE 8", d >= 2 && d <= 8);
        due.is("P52 MONIC", Due.rowAt(s, d), 1);
        Due.put(s, 1, "0,0,0,0,1");
        Due.put(s, 2, "1");
        for (int k = d - 1; k >= 0; k--) {
            s.remainder(2, 0, 0, 2);
            s.multiplies(2, 1, 3);
            timesT4(s);
            Due.put(s, 4, "" + Due.rowAt(s, k));
            s.adds(2, 4, 2);
        }
        due.is("P52 of DEGREE 8: it DIVIDES it", s.remainder(2, 0, 0, 2), -1);
    }

    /** PLACE 2 becomes what t^4 times it leaves by PLACE 0. */
    private static void timesT4(SkewRings s) {
        Due.put(s, 5, "0,1");
        for (int n = 0; n < 4; n++) {
            s.multiplies(5, 2, 2);
            s.remainder(2, 0, 0, 2);
        }
    }

    private static void parts() {
        SkewRings x = Due.fresh(0, "1,0,1", "2,1", "0,0,2,3", "3", "1,0,0,0,2");
        due.is("P53 t t + 1", x.part(0, 5), 2);
        due.place("P53 t t + 1", x, 5, "1,0,1");
        due.is("P53 t + 2", x.part(1, 5), 0);
        due.place("P53 t + 2", x, 5, "1");
        due.is("P53 3 t t t + 2 t t", x.part(2, 5), 2);
        due.place("P53 3 t t t + 2 t t", x, 5, "0,0,1");
        due.is("P53 a number", x.part(3, 5), 0);
        due.place("P53 a number", x, 5, "1");
        due.is("P53 2 t^4 + 1", x.part(4, 5), 0);
        x.multiplies(0, 0, 4);
        x.scales(3, 4, 4);
        due.is("P53 3 (t t + 1)^2", x.part(4, 4), 4);
        due.place("P53 in place", x, 4, "1,0,0,0,1");
        due.is("P53 no such PLACE", x.part(0, 6), -1);
        due.is("P53 no such PLACE", x.part(0, -1), -1);
        for (int k = 0; k < 6; k++) {
            int to = k;
            refuses("P53", true, (y, i) -> y.part(i, to));
        }
        SkewRings n = Due.fresh(2, "1,0,1", "2,0,1", "4,1");
        n.multiplies(0, 2, 3);
        due.is("P53 over 9", n.part(3, 4), 2);
        due.place("P53 over 9", n, 4, "1,0,1");
        n.multiplies(0, 1, 3);
        due.is("P53 over 9", n.part(3, 4), 4);
        due.place("P53 over 9", n, 4, "2,0,0,0,1");
        SkewRings e = Due.fresh(1, "1,0,0,1", "5,1");
        e.multiplies(0, 1, 3);
        due.is("P53 over 8", e.part(3, 4), 3);
        due.place("P53 over 8", e, 4, "1,0,0,1");
    }

    private static void primesOfDegree() {
        int[] q = {4, 8, 9, 16};
        for (int f = 0; f < 4; f++) {
            SkewRings x = Due.fresh(f);
            due.is("P54 of DEGREE 1", x.primes(1), q[f]);
            due.is("P54 another d", x.primes(0), -1);
            due.is("P54 another d", x.primes(3), -1);
            due.is("P54 another d", x.primes(-1), -1);
        }
        due.is("P54 of DEGREE 2", Due.fresh(0).primes(2), 5);
    }
}
