/** Promises 43 to 56: each sentence that names a boundary, on both sides of it. */
public final class EdgeDivisorTest {
    private static final Due due = new Due();
    private static final int[] Q = {4, 8, 9, 16};
    private static final int[] P = {2, 2, 3, 2};
    private static final int[] M = {2, 3, 2, 4};

    public static void main(String[] args) {
        for (int f = 0; f < 4; f++) {
            divisors(f);
            primes(f);
            factors(f);
            factorsKept(f);
            ways(f);
            likes(f);
            like(f);
            commuting(f);
            central(f);
            bounds(f);
            boundsOfEight(f);
            parts(f);
            primesOfDegree(f);
            counts(f);
            rows(f);
        }
        due.finish("EdgeDivisorTest");
    }

    private static String t(int k, int number) {
        return "0,".repeat(k) + number;
    }

    private interface Asked {
        long of(SkewRings x, int place);
    }

    /** "are asked of DEGREES 4 at most: -2 of 0, -3 above that": PLACES 0 .. 5 have 0 and DEGREES 4 .. 8. */
    private static void zeroAndAboveFour(int f, String what, Asked call) {
        Scene.Maker maker = Scene.of(f, "0", t(4, 2), t(5, 1), "1,0,0,0,0,0,2", "1,0,0,0,0,0,0,3", t(8, 1));
        Scene.refused(due, what + " of 0", maker, x -> call.of(x, 0), -2);
        due.holds(what + " of DEGREE 4", call.of(maker.make(), 1) >= 0);
        for (int i = 2; i < 6; i++) {
            int place = i;
            Scene.refused(due, what + " of DEGREE " + (i + 3), maker, x -> call.of(x, place), -3);
        }
        Scene.refused(due, what + " of PLACE 6", maker, x -> call.of(x, 6), -1);
        Scene.refused(due, what + " of PLACE -1", maker, x -> call.of(x, -1), -1);
    }

    /** "of DEGREE d (1 .. 3)"; "the ROW: .. (none, if there is none). NONE: another d." */
    private static void divisors(int f) {
        for (int d = 1; d <= 3; d++) {
            int degree = d;
            zeroAndAboveFour(f, "P43 d " + d, (x, i) -> x.divisors(i, degree));
            // Of t^n there is one of each DEGREE up to n, t^d; above it there is none.
            for (int n = 0; n <= 4; n++) {
                SkewRings x = Scene.accepted(due, "P43 2 t^" + n + ", d " + d, Scene.of(f, t(n, 2), "2,1"), y -> y.divisors(0, degree),
                    d <= n ? 1 : 0, Scene.ROW);
                long[] row = new long[d <= n ? d + 1 : 0];
                if (d <= n) row[d] = 1;
                due.row("P43 2 t^" + n + ", d " + d, x, row);
            }
        }
        Scene.Maker maker = Scene.of(f, "1,1,0,0,1", "0", t(5, 1), "2,1,1");
        for (int d : new int[] {0, 4, -1, 5, 8, Integer.MIN_VALUE, Integer.MAX_VALUE}) {
            for (int i = 0; i < 3; i++) {
                int place = i;
                Scene.refused(due, "P43 NONE: another d " + d + ", ahead of all else", maker, x -> x.divisors(place, d), -1);
            }
        }
        SkewRings x = Scene.accepted(due, "P43 of its own DEGREE: itself, MONIC", Scene.of(f, "2,1,3"), y -> y.divisors(0, 2), 1, Scene.ROW);
        int c = x.inverse(3);
        due.row("P43 of its own DEGREE", x, x.times(c, 2), c, 1);
        x.divisors(0, 3);
        due.row("P43 none: the ROW has none", x);
    }

    /** "PRIME: 1, else 0": DEGREES 0, 1 and 4; the last DEGREE that may DIVIDE is 3. */
    private static void primes(int f) {
        zeroAndAboveFour(f, "P44", SkewRings::prime);
        Scene.Maker maker = Scene.of(f, "1", "0,1", t(1, Q[f] - 1), "0,0,1", "1,2", "" + (Q[f] - 1));
        int[] want = {0, 1, 1, 0, 1, 0};
        for (int i = 0; i < 6; i++) {
            int place = i;
            Scene.accepted(due, "P44 PLACE " + i, maker, x -> x.prime(place), want[i], 0);
        }
        // A PRIME of DEGREE 3 (by its ROOTS and those of what is turned round) times t at each side.
        SkewRings x = new SkewRings();
        x.field(f);
        int code = 0;
        for (; code < 400; code++) {
            x = Due.fresh(f, 1 + code % (Q[f] - 1) + "," + code / 3 % Q[f] + "," + code / 7 % Q[f] + ",1", "0,1");
            if (x.prime(0) == 1) break;
        }
        due.holds("P44 there is a PRIME of DEGREE 3", code < 400);
        due.is("P44 no divisor of DEGREE 1", x.divisors(0, 1), 0);
        due.is("P44 no divisor of DEGREE 2", x.divisors(0, 2), 0);
        due.is("P44 itself alone", x.divisors(0, 3), 1);
        x.multiplies(1, 0, 2);
        due.is("P44 t ahead of it: it DIVIDES", x.divisors(2, 3) > 0 ? 1 : 0, 1);
        due.is("P44 t ahead of it: no PRIME", x.prime(2), 0);
        x.multiplies(0, 1, 2);
        due.is("P44 t behind it: no PRIME", x.prime(2), 0);
    }

    /** "how many; the ROW: LEADING, DEGREES of F1, F2, .. ": none of a NUMBER, four of t^4. */
    private static void factors(int f) {
        zeroAndAboveFour(f, "P45", SkewRings::factors);
        int last = Q[f] - 1;
        for (int n = 0; n <= 4; n++) {
            SkewRings x = Scene.accepted(due, "P45 (q - 1) t^" + n, Scene.of(f, t(n, last), "2,1"), y -> y.factors(0), n,
                Scene.ROW | Scene.FACTORS);
            long[] row = new long[n + 1];
            for (int k = 1; k <= n; k++) row[k] = 1;
            row[0] = last;
            due.row("P45 LEADING, DEGREES", x, row);
            due.is("P45 FACTORS", x.count(5), n);
            for (int j = 1; j <= n; j++) {
                due.is("P46 FACTOR " + j, Due.factorAt(x, j, 0), 0);
                due.is("P46 FACTOR " + j, Due.factorAt(x, j, 1), 1);
                due.is("P46 k above its DEGREE", Due.factorAt(x, j, 2), Scene.THROWS);
                due.is("P46 k -1", Due.factorAt(x, j, -1), Scene.THROWS);
            }
            for (int j : new int[] {0, -1, n + 1, Integer.MIN_VALUE, Integer.MAX_VALUE}) {
                due.is("P46 no FACTOR " + j, Due.factorAt(x, j, 0), Scene.THROWS);
            }
        }
        Scene.Maker maker = Scene.of(f, "2,1");
        for (int j : new int[] {0, 3, -1}) Scene.refused(due, "P46 j " + j, maker, x -> x.factor(j, 0), Scene.THROWS);
        for (int k : new int[] {2, -1, 8}) Scene.refused(due, "P46 k " + k, maker, x -> x.factor(1, k), Scene.THROWS);
        due.is("P46 j 1 is the first", ask(maker, 1, 1), 1);
        due.is("P46 j 2 is the last", ask(maker, 2, 1), 1);
    }

    private static long ask(Scene.Maker maker, int j, int k) {
        return Due.factorAt(maker.make(), j, k);
    }

    /** "of the latest factors() that was not refused" */
    private static void factorsKept(int f) {
        SkewRings x = Due.fresh(f, t(3, 2), "0", t(5, 1), "3", "2,1", "0,1");
        due.is("P46 none before", Due.factorAt(x, 1, 0), Scene.THROWS);
        x.factors(0);
        for (int place : new int[] {1, 2, 6, -1}) {
            due.holds("P45 refused", x.factors(place) < 0);
            due.is("P46 the latest that was not refused", x.count(5), 3);
            due.is("P46 the latest that was not refused", Due.factorAt(x, 3, 1), 1);
            due.row("P45 refused: the ROW stays", x, 2, 1, 1, 1);
        }
        due.is("P2 it is so: FACTORS stay", x.field(f), -2);
        due.is("P2 no such FIELD: FACTORS stay", x.field(4), -1);
        due.is("P46 still there", Due.factorAt(x, 3, 0), 0);
        x.takes(0, 0, 0);
        due.is("P46 the PLACE is told anew", Due.factorAt(x, 3, 1), 1);
        due.is("P45 of DEGREE 1", x.factors(4), 1);
        due.is("P46 the latest", Due.factorAt(x, 1, 0), 2);
        due.is("P46 those before are gone", Due.factorAt(x, 2, 0), Scene.THROWS);
        due.is("P45 of a NUMBER: none, not refused", x.factors(3), 0);
        due.row("P45 of a NUMBER: LEADING", x, 3);
        due.is("P46 the latest has none", Due.factorAt(x, 1, 0), Scene.THROWS);
        x.factors(5);
        x.field((f + 1) % 4);
        due.is("P2 no FACTORS", Due.factorAt(x, 1, 0), Scene.THROWS);
        due.is("P2 no FACTORS", x.count(5), 0);
        x.field(f);
        due.is("P2 nor when it comes back", Due.factorAt(x, 1, 0), Scene.THROWS);
    }

    /** "(a NUMBER alone: 1)" */
    private static void ways(int f) {
        zeroAndAboveFour(f, "P47", SkewRings::ways);
        for (int n = 0; n <= 4; n++) {
            Scene.accepted(due, "P47 (q - 1) t^" + n + ": one way", Scene.of(f, t(n, Q[f] - 1)), x -> x.ways(0), 1, 0);
        }
        Scene.accepted(due, "P47 the NUMBER 1", Scene.of(f, "1"), x -> x.ways(0), 1, 0);
        Scene.accepted(due, "P47 DEGREE 1", Scene.of(f, "2,3"), x -> x.ways(0), 1, 0);
        // t (t + 2): one way for each ROOT; what is left is of DEGREE 1.
        SkewRings x = Due.fresh(f, "0,1", "2,1");
        x.multiplies(0, 1, 2);
        x.roots(2);
        due.is("P47 DEGREE 2: as many as ROOTS", x.ways(2), Due.rowAt(x, 0));
    }

    /** "of its DEGREE (1 or 2; -3: another one)" */
    private static void likes(int f) {
        Scene.Maker maker = Scene.of(f, "0", "3", "0,1", "0,0,1", t(3, 1), t(4, 1));
        Scene.refused(due, "P48 -2: 0", maker, x -> x.likes(0), -2);
        Scene.refused(due, "P48 -3: DEGREE 0", maker, x -> x.likes(1), -3);
        Scene.accepted(due, "P48 DEGREE 1: t", maker, x -> x.likes(2), 1, 0);
        Scene.accepted(due, "P48 DEGREE 2: t t", maker, x -> x.likes(3), 1, 0);
        Scene.refused(due, "P48 -3: DEGREE 3", maker, x -> x.likes(4), -3);
        Scene.refused(due, "P48 -3: DEGREE 4", maker, x -> x.likes(5), -3);
        Scene.Maker more = Scene.of(f, t(5, 1), "1,0,0,0,0,0,0,1", t(8, 3));
        for (int i = 0; i < 3; i++) {
            int place = i;
            Scene.refused(due, "P48 -3: above 4", more, x -> x.likes(place), -3);
        }
        Scene.refused(due, "P48 NONE: PLACE 6", maker, x -> x.likes(6), -1);
        Scene.refused(due, "P48 NONE: PLACE -1", maker, x -> x.likes(-1), -1);
    }

    /** "the first WAY by ORDER (none without). -4: their DEGREES are unlike, or 0 (asked last)." */
    private static void like(int f) {
        for (int n = 1; n <= 4; n++) {
            Scene.Maker maker = Scene.of(f, t(n, 2), t(n, 1), "1," + t(n - 1, 1), "2," + t(n % 4, 1), "3", "0");
            SkewRings x = Scene.accepted(due, "P49 DEGREE " + n + ": itself", maker, y -> y.like(0, 0), 1, Scene.ROW);
            long[] row = new long[n];
            row[0] = 1;
            due.row("P49 DEGREE " + n + ": a0 .. a(n - 1) of 1", x, row);
            x = Scene.accepted(due, "P49 DEGREE " + n + ": a NUMBER ahead", maker, y -> y.like(0, 1), 1, Scene.ROW);
            due.row("P49 DEGREE " + n + ": a NUMBER ahead", x, row);
            x = Scene.accepted(due, "P49 DEGREE " + n + ": t^n and t^n + 1", maker, y -> y.like(1, 2), 0, Scene.ROW);
            due.row("P49 none without", x);
            Scene.refused(due, "P49 -4: unlike DEGREES", maker, y -> y.like(0, 3), -4);
            Scene.refused(due, "P49 -4: unlike DEGREES", maker, y -> y.like(3, 0), -4);
            Scene.refused(due, "P49 -4: DEGREE 0", maker, y -> y.like(4, 4), -4);
            Scene.refused(due, "P49 -4: DEGREES 0 and n", maker, y -> y.like(4, 0), -4);
            Scene.refused(due, "P49 -4: DEGREES n and 0", maker, y -> y.like(0, 4), -4);
            Scene.refused(due, "P49 -2 ahead of -4", maker, y -> y.like(5, 0), -2);
            Scene.refused(due, "P49 -2 ahead of -4", maker, y -> y.like(4, 5), -2);
            Scene.refused(due, "P49 -2: both are 0", maker, y -> y.like(5, 5), -2);
        }
        Scene.Maker five = Scene.of(f, t(5, 1), t(4, 1), t(5, 2), "0", t(8, 1), "2");
        Scene.accepted(due, "P49 DEGREE 4", five, y -> y.like(1, 1), 1, Scene.ROW);
        int[][] above = {{0, 1}, {1, 0}, {0, 2}, {0, 0}, {4, 1}, {4, 4}, {0, 5}, {5, 4}};
        for (int[] a : above) Scene.refused(due, "P49 -3: above 4", five, y -> y.like(a[0], a[1]), -3);
        Scene.refused(due, "P49 -2 ahead of -3", five, y -> y.like(0, 3), -2);
        Scene.refused(due, "P49 -2 ahead of -3", five, y -> y.like(3, 4), -2);
        Scene.refused(due, "P49 NONE ahead of -3", five, y -> y.like(0, 6), -1);
        Scene.refused(due, "P49 NONE ahead of -2", five, y -> y.like(-1, 3), -1);
    }

    /** "below its own (that is 1 .. 3; -3: another one), 0 too" */
    private static void commuting(int f) {
        Scene.Maker maker = Scene.of(f, "0", "2", "0,1", "0,0,1", t(3, 1), t(4, 1));
        Scene.refused(due, "P50 -2: 0", maker, x -> x.commuting(0), -2);
        Scene.refused(due, "P50 -3: DEGREE 0", maker, x -> x.commuting(1), -3);
        int all = 1;
        for (int n = 1; n <= 3; n++) {
            int place = n + 1;
            all *= Q[f];
            // t^n U is U' t^n: all U do, and those with a0 have 1 as DIVISOR.
            SkewRings x = Scene.accepted(due, "P50 t^" + n + ": all, 0 too", maker, y -> y.commuting(place), all, Scene.ROW);
            due.row("P50 t^" + n + ": those with a0", x, all - all / Q[f]);
        }
        Scene.refused(due, "P50 -3: DEGREE 4", maker, x -> x.commuting(5), -3);
        Scene.Maker more = Scene.of(f, t(5, 1), "1,0,0,0,0,0,0,1", t(8, 3));
        for (int i = 0; i < 3; i++) {
            int place = i;
            Scene.refused(due, "P50 -3: above 4", more, x -> x.commuting(place), -3);
        }
        Scene.refused(due, "P50 NONE: PLACE 6", maker, x -> x.commuting(6), -1);
        Scene.refused(due, "P50 NONE: PLACE -1", maker, x -> x.commuting(-1), -1);
        // t - 1 and U = b: (t - 1) b leaves MAP(b) - b, 0 for PLAIN b alone: p of them, 0 too.
        SkewRings x = Scene.accepted(due, "P50 t less 1", Scene.of(f, P[f] - 1 + ",1"), y -> y.commuting(0), P[f], Scene.ROW);
        due.row("P50 t less 1: all but 0", x, P[f] - 1);
    }

    /** "(of any DEGREE)" */
    private static void central(int f) {
        Scene.Maker maker = Scene.of(f, "0", "" + (P[f] - 1), "" + P[f], "0,1", t(8, 1), t(M[f], P[f] - 1));
        int[] want = {1, 1, 0, 0, 8 % M[f] == 0 ? 1 : 0, 1};
        for (int i = 0; i < 6; i++) {
            int place = i;
            Scene.accepted(due, "P51 FIELD " + f + ", PLACE " + i, maker, x -> x.central(place), want[i], 0);
        }
        int top = 8 / M[f] * M[f];
        Scene.Maker high = Scene.of(f, "1," + t(top - 1, 1), "1,1," + t(top - 2, 1), t(top, P[f]), t(top - 1, 1), P[f] + "," + t(top - 1, 1));
        int[] wantHigh = {1, 0, 0, 0, 0};
        for (int i = 0; i < 5; i++) {
            int place = i;
            Scene.accepted(due, "P51 FIELD " + f + ", up to t^" + top + ", PLACE " + i, high, x -> x.central(place), wantHigh[i], 0);
        }
        Scene.refused(due, "P51 NONE: PLACE 6", maker, x -> x.central(6), -1);
        Scene.refused(due, "P51 NONE: PLACE -1", maker, x -> x.central(-1), -1);
    }

    /** "The least DEGREE, by m"; of t^n the least multiple of m from n on, up to DEGREE 8. */
    private static void bounds(int f) {
        for (int n = 0; n <= 8; n++) {
            int d = (n + M[f] - 1) / M[f];
            SkewRings x = Scene.accepted(due, "P52 FIELD " + f + ": 2 t^" + n, Scene.of(f, t(n, 2), "2,1"), y -> y.bound(0), d, Scene.ROW);
            long[] row = new long[d + 1];
            row[d] = 1;
            due.row("P52 t^" + n, x, row);
        }
        Scene.Maker maker = Scene.of(f, "0", "1", P[f] - 1 + "," + t(M[f] - 1, 1), "2");
        Scene.refused(due, "P52 -2 of 0", maker, x -> x.bound(0), -2);
        SkewRings x = Scene.accepted(due, "P52 the NUMBER 1", maker, y -> y.bound(1), 0, Scene.ROW);
        due.row("P52 of a NUMBER: 1", x, 1);
        x = Scene.accepted(due, "P52 a NUMBER", maker, y -> y.bound(3), 0, Scene.ROW);
        due.row("P52 of a NUMBER: 1", x, 1);
        x = Scene.accepted(due, "P52 t^m less 1: itself", maker, y -> y.bound(2), 1, Scene.ROW);
        due.row("P52 t^m less 1: itself", x, P[f] - 1, 1);
        Scene.refused(due, "P52 NONE: PLACE 6", maker, y -> y.bound(6), -1);
        Scene.refused(due, "P52 NONE: PLACE -1", maker, y -> y.bound(-1), -1);
        // t less a: t^m less the norm of a.
        for (int a = 0; a < Q[f]; a++) {
            SkewRings y = Due.fresh(f);
            Due.put(y, 0, y.times(a, P[f] - 1) + ",1");
            due.is("P52 t less a", y.bound(0), 1);
            due.row("P52 t less a", y, y.times(P[f] - 1, y.norm(a, M[f])), 1);
        }
    }

    /** "(of any DEGREE)": t^8 leaves by (t - a) t^7 what has nothing but the highest digit there is. */
    private static void boundsOfEight(int f) {
        if (8 % M[f] != 0) return;
        SkewRings x = Due.fresh(f);
        int a = x.times(P[f] - 1, Q[f] / P[f]);
        Due.put(x, 0, t(7, Q[f] / P[f]) + ",1");
        int d = 8 / M[f] + 1;
        due.is("P52 FIELD " + f + ": (t - a) t^7", x.bound(0), d);
        long[] row = new long[d + 1];
        row[d] = 1;
        row[d - 1] = x.times(P[f] - 1, x.norm(a, M[f]));
        due.row("P52 FIELD " + f + ": t^8 (t^m less the norm)", x, row);
    }

    /** "of greatest DEGREE that DIVIDES it: DEGREE": 1 of a NUMBER and of what has none. */
    private static void parts(int f) {
        zeroAndAboveFour(f, "P53", (x, i) -> x.part(i, 0));
        zeroAndAboveFour(f, "P53", (x, i) -> x.part(i, 5));
        Scene.Maker maker = Scene.of(f, "0", t(5, 1), "2", "1,1");
        Scene.refused(due, "P53 NONE: no PLACE k", maker, x -> x.part(2, 6), -1);
        Scene.refused(due, "P53 NONE ahead of 0", maker, x -> x.part(0, 6), -1);
        Scene.refused(due, "P53 NONE ahead of above 4", maker, x -> x.part(1, -1), -1);
        SkewRings x = Scene.accepted(due, "P53 of a NUMBER", maker, y -> y.part(2, 5), 0, 1 << 5);
        due.place("P53 of a NUMBER: 1", x, 5, "1");
        x = Scene.accepted(due, "P53 of 1 + t", maker, y -> y.part(3, 3), 0, 1 << 3);
        due.place("P53 of 1 + t, in place: 1", x, 3, "1");
        for (int n = 0; n <= 4; n++) {
            int d = n / M[f] * M[f];
            x = Scene.accepted(due, "P53 FIELD " + f + ": 2 t^" + n, Scene.of(f, t(n, 2), "2,1,1"), y -> y.part(0, 1), d, 1 << 1);
            due.place("P53 2 t^" + n, x, 1, t(d, 1));
        }
    }

    /** "of DEGREE d (1, 2) .. NONE: another d." */
    private static void primesOfDegree(int f) {
        Scene.Maker maker = Scene.usual(f);
        Scene.accepted(due, "P54 DEGREE 1: all", maker, x -> x.primes(1), Q[f], 0);
        int many = 0;
        for (int b = 0; b < Q[f]; b++) {
            SkewRings x = new SkewRings();
            x.field(f);
            for (int a = 0; a < Q[f]; a++) {
                Due.put(x, 0, a + "," + b + ",1");
                if (x.roots(0) == 0) many++;
            }
        }
        int all = many;
        Scene.accepted(due, "P54 DEGREE 2: no ROOT", maker, x -> x.primes(2), all, 0);
        for (int d : new int[] {0, 3, -1, 4, Integer.MIN_VALUE, Integer.MAX_VALUE}) {
            Scene.refused(due, "P54 NONE: another d " + d, maker, x -> x.primes(d), -1);
        }
    }

    /** "NONE for another what." */
    private static void counts(int f) {
        Scene.Maker maker = Scene.told(f, "1,2,3", "2,1", "0", "3", "0", "0", "1,1");
        int[] want = {f, Q[f], P[f], M[f], 1 | 4 | 32, 2, f == 2 ? 3 : 2, 5};
        for (int what = 0; what <= 7; what++) {
            int w = what;
            Scene.accepted(due, "P55 what " + what, maker, x -> x.count(w), want[what], 0);
        }
        for (int what : new int[] {-1, 8, 9, Integer.MIN_VALUE, Integer.MAX_VALUE}) {
            Scene.refused(due, "P55 NONE for another what " + what, maker, x -> x.count(what), -1);
        }
        SkewRings x = Due.fresh(f, "1", "1", "1", "1", "1", "1");
        due.is("P55 all PLACES", x.count(4), 63);
        due.is("P55 no FACTORS", x.count(5), 0);
        due.is("P55 no ROW", x.count(6), 0);
        due.is("P55 no signs", x.count(7), 0);
        for (int k = 0; k < 6; k++) {
            x.takes(k, k, k);
            due.is("P55 PLACES up to " + k + " are 0", x.count(4), 63 & -2 << k);
        }
    }

    /** "Number i of the ROW. NoSuchElementException: none such." */
    private static void rows(int f) {
        Scene.Maker maker = Scene.usual(f);
        int many = f == 2 ? 3 : 2;
        for (int i = 0; i < many; i++) {
            int n = i;
            Scene.accepted(due, "P56 number " + i, maker, x -> x.row(n), i == 2 ? 3 : i, 0);
        }
        for (int i : new int[] {-1, many, many + 1, 39, 40, Integer.MIN_VALUE, Integer.MAX_VALUE}) {
            Scene.refused(due, "P56 none such " + i, maker, x -> x.row(i), Scene.THROWS);
        }
        SkewRings x = Due.fresh(f, "0,1", "1", "0");
        due.is("P56 at first none", Due.rowAt(x, 0), Scene.THROWS);
        x.eigen(0);
        int longest = x.count(6);
        due.is("P56 of " + longest + " the last", Due.rowAt(x, longest - 1) > 0 ? 1 : 0, 1);
        due.is("P56 of " + longest + " none behind it", Due.rowAt(x, longest), Scene.THROWS);
        x.roots(1);
        due.is("P56 a shorter one: the first", Due.rowAt(x, 0), 0);
        due.is("P56 a shorter one: what was there is gone", Due.rowAt(x, 1), Scene.THROWS);
        x.divisors(1, 1);
        due.is("P56 an empty one", Due.rowAt(x, 0), Scene.THROWS);
    }
}
