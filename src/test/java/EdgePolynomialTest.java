/** Promises 13 to 31: each sentence that names a boundary, on both sides of it. What is no PLACE at all: EdgeTableTest. */
public final class EdgePolynomialTest {
    private static final Due due = new Due();
    private static final int[] Q = {4, 8, 9, 16};
    private static final int[] P = {2, 2, 3, 2};
    private static final String T8 = "0,0,0,0,0,0,0,0,1";

    public static void main(String[] args) {
        for (int f = 0; f < 4; f++) {
            degrees(f);
            numbers(f);
            sums(f);
            differences(f);
            scaled(f);
            products(f);
            divisions(f);
            divisors(f);
            multiples(f);
            steps(f);
            mapped(f);
            monic(f);
            forms(f);
            same(f);
            powers(f);
            turned(f);
            cofactors(f);
        }
        crosses();
        longestSteps();
        due.finish("EdgePolynomialTest");
    }

    private static String power(int k, int number) {
        StringBuilder s = new StringBuilder();
        for (int i = 0; i < k; i++) s.append("0,");
        return s.append(number).toString();
    }

    /** "DEGREE of what a PLACE has (NONE of 0); -2: no such PLACE." */
    private static void degrees(int f) {
        for (int n = 0; n <= 8; n++) {
            Scene.accepted(due, "P13 DEGREE " + n, Scene.of(f, "2,1", power(n, 2)), x -> x.degree(1), n, 0);
        }
        Scene.accepted(due, "P13 NONE of 0", Scene.of(f, "2,1", "0"), x -> x.degree(1), -1, 0);
        Scene.refused(due, "P13 -2: PLACE 6", Scene.usual(f), x -> x.degree(6), -2);
        Scene.refused(due, "P13 -2: PLACE -1", Scene.usual(f), x -> x.degree(-1), -2);
        SkewRings x = Scene.usual(f).make();
        due.is("P13 PLACE 5", x.degree(5), 4);
        due.is("P13 PLACE 0", x.degree(0), 1);
    }

    /** "(k 0 .. 8)" */
    private static void numbers(int f) {
        SkewRings x = Due.fresh(f, "3,0,1,2,0,1,0,1,2", "3", "0");
        int[] want = {3, 0, 1, 2, 0, 1, 0, 1, 2};
        for (int k = 0; k <= 8; k++) {
            due.is("P14 k " + k, x.number(0, k), want[k]);
            due.is("P14 above the DEGREE", x.number(1, k), k == 0 ? 3 : 0);
            due.is("P14 of 0", x.number(2, k), 0);
        }
        for (int k : new int[] {9, 16, 17, -1}) Scene.refused(due, "P14 k " + k, Scene.usual(f), y -> y.number(2, k), -1);
        Scene.refused(due, "P14 PLACE 6", Scene.usual(f), y -> y.number(6, 0), -1);
        Scene.refused(due, "P14 PLACE -1", Scene.usual(f), y -> y.number(-1, 8), -1);
    }

    /** "DEGREE (NONE of 0)" */
    private static void sums(int f) {
        String all = "1,1,1,1,1,1,1,1,1";
        String opposite = P[f] == 2 ? all : "2,2,2,2,2,2,2,2,2";
        Scene.Maker maker = Scene.of(f, all, opposite, T8, "0", "3", "1,1");
        SkewRings x = Scene.accepted(due, "P15 NONE of 0", maker, y -> y.adds(0, 1, 5), -1, 1 << 5);
        due.place("P15 NONE of 0", x, 5, "0");
        due.is("P15 it is in use no more", x.count(4) >> 5 & 1, 0);
        Scene.accepted(due, "P15 0 and 0", maker, y -> y.adds(3, 3, 5), -1, 1 << 5);
        x = Scene.accepted(due, "P15 with 0", maker, y -> y.adds(3, 0, 5), 8, 1 << 5);
        due.place("P15 with 0", x, 5, all);
        x = Scene.accepted(due, "P15 LEADING stays", maker, y -> y.adds(2, 4, 5), 8, 1 << 5);
        due.place("P15 LEADING stays", x, 5, "3,0,0,0,0,0,0,0,1");
        SkewRings z = Due.fresh(f, all, power(8, P[f] - 1));
        due.is("P15 LEADING falls away: one less", z.adds(0, 1, 5), 7);
        due.place("P15 LEADING falls away", z, 5, "1,1,1,1,1,1,1,1");
        Scene.refused(due, "P15 no PLACE i", maker, y -> y.adds(6, 0, 5), -2);
        Scene.refused(due, "P15 no PLACE j", maker, y -> y.adds(0, -1, 5), -2);
        Scene.refused(due, "P15 no PLACE k", maker, y -> y.adds(0, 1, 6), -2);
    }

    private static void differences(int f) {
        Scene.Maker maker = Scene.of(f, "1,2,3,1,2,3,1,2,3", "1,2,3,1,2,3,1,2,3", "1,2,3", "0", "0,2");
        SkewRings x = Scene.accepted(due, "P16 of the same", maker, y -> y.takes(0, 1, 5), -1, 1 << 5);
        due.place("P16 of the same", x, 5, "0");
        Scene.accepted(due, "P16 of itself", maker, y -> y.takes(2, 2, 2), -1, 1 << 2);
        Scene.accepted(due, "P16 0 less 0", maker, y -> y.takes(3, 3, 5), -1, 0);
        x = Scene.accepted(due, "P16 less 0", maker, y -> y.takes(0, 3, 5), 8, 1 << 5);
        due.place("P16 less 0", x, 5, "1,2,3,1,2,3,1,2,3");
        x = Scene.accepted(due, "P16 0 less it", maker, y -> y.takes(3, 4, 5), 1, 1 << 5);
        due.place("P16 0 less it", x, 5, P[f] == 2 ? "0,2" : "0,1");
        x = Scene.accepted(due, "P16 LEADING stays", maker, y -> y.takes(0, 2, 5), 8, 1 << 5);
        due.place("P16 LEADING stays", x, 5, "0,0,0,1,2,3,1,2,3");
    }

    /** "a times that of i": 0 too; "-2: no such NUMBER, too" */
    private static void scaled(int f) {
        Scene.Maker maker = Scene.of(f, "1,0,0,0,0,0,0,0,1", "0", "2");
        SkewRings x = Scene.accepted(due, "P17 a 0", maker, y -> y.scales(0, 0, 5), -1, 1 << 5);
        due.place("P17 a 0", x, 5, "0");
        int last = Q[f] - 1;
        x = Scene.accepted(due, "P17 a q - 1", maker, y -> y.scales(last, 0, 5), 8, 1 << 5);
        due.place("P17 a q - 1 ahead of t^8", x, 5, last + ",0,0,0,0,0,0,0," + last);
        Scene.accepted(due, "P17 of 0", maker, y -> y.scales(last, 1, 5), -1, 0);
        x = Scene.accepted(due, "P17 a 1", maker, y -> y.scales(1, 2, 5), 0, 1 << 5);
        due.place("P17 a 1", x, 5, "2");
        Scene.refused(due, "P17 a is q", maker, y -> y.scales(Q[f], 0, 5), -2);
        Scene.refused(due, "P17 a is -1", maker, y -> y.scales(-1, 0, 5), -2);
        Scene.refused(due, "P17 a is q, of 0", maker, y -> y.scales(Q[f], 1, 5), -2);
    }

    /** "-3: its DEGREE is above 8" */
    private static void products(int f) {
        for (int i = 0; i <= 8; i++) {
            for (int j = 0; j <= 8; j++) {
                Scene.Maker maker = Scene.of(f, power(i, 1), power(j, P[f]), "3,1");
                String what = "P18 t^" + i + " by w t^" + j;
                if (i + j > 8) {
                    Scene.refused(due, what, maker, x -> x.multiplies(0, 1, 2), -3);
                } else {
                    SkewRings x = Scene.accepted(due, what, maker, y -> y.multiplies(0, 1, 2), i + j, 1 << 2);
                    due.place(what, x, 2, power(i + j, x.map(P[f], i)));
                }
            }
        }
        Scene.Maker maker = Scene.of(f, T8, "0", "3,1");
        Scene.accepted(due, "P18 t^8 by 0", maker, x -> x.multiplies(0, 1, 2), -1, 1 << 2);
        Scene.accepted(due, "P18 0 by t^8", maker, x -> x.multiplies(1, 0, 2), -1, 1 << 2);
        Scene.refused(due, "P18 above 8 over what is asked", maker, x -> x.multiplies(0, 2, 0), -3);
    }

    /** "(no such SIDE: -2, too); -3: that of j is 0"; "the DEGREE of R less than that of B" */
    private static void divisions(int f) {
        String[] polys = {"1,2,3,1,2,3,1,2,3", "3,1,2", "2", "0", "2,1,3", "1,1,1,1,1,1,1,1,1"};
        Scene.Maker maker = Scene.of(f, polys);
        int[] degree = {8, 2, 0, -1, 2, 8};
        for (int side = 0; side < 2; side++) {
            int s = side;
            for (int i = 0; i < 6; i++) {
                for (int j = 0; j < 6; j++) {
                    int a = i;
                    int b = j;
                    String what = "FIELD " + f + ": " + polys[i] + " by " + polys[j] + " at " + s;
                    if (j == 3) {
                        Scene.refused(due, "P19 -3: that of j is 0: " + what, maker, x -> x.quotient(a, b, s, 2), -3);
                        Scene.refused(due, "P20 -3: that of j is 0: " + what, maker, x -> x.remainder(a, b, s, 2), -3);
                        continue;
                    }
                    int q = degree[i] < degree[j] ? -1 : degree[i] - degree[j];
                    Scene.accepted(due, "P19 " + what, maker, x -> x.quotient(a, b, s, 3), q, 1 << 3);
                    SkewRings x = maker.make();
                    int r = x.remainder(a, b, s, 3);
                    due.holds("P20 R is below B: " + what, r < degree[j]);
                    if (degree[i] < degree[j]) due.place("P20 R is A: " + what, x, 3, polys[i]);
                    if (degree[j] == 0 || i == j || i == 3) due.is("P20 R is 0: " + what, r, -1);
                }
            }
        }
        for (int s : new int[] {2, -1, Integer.MAX_VALUE, Integer.MIN_VALUE}) {
            Scene.refused(due, "P19 no such SIDE " + s, maker, x -> x.quotient(0, 1, s, 3), -2);
            Scene.refused(due, "P20 no such SIDE " + s, maker, x -> x.remainder(0, 1, s, 3), -2);
            Scene.refused(due, "P19 no such SIDE ahead of by 0", maker, x -> x.quotient(0, 3, s, 4), -2);
            Scene.refused(due, "P20 no such SIDE ahead of by 0", maker, x -> x.remainder(0, 3, s, 4), -2);
        }
    }

    /** "DEGREE; -2: both are 0" */
    private static void divisors(int f) {
        Scene.Maker maker = Scene.of(f, "0", "2", "3,0,1,2", "0", T8, "2,1");
        for (int side = 0; side < 2; side++) {
            int s = side;
            Scene.refused(due, "P21 -2: both are 0", maker, x -> x.divisor(0, 3, s, 5), -2);
            Scene.refused(due, "P21 -2: one PLACE of 0", maker, x -> x.divisor(0, 0, s, 5), -2);
            int[][] pairs = {{0, 1, 0}, {1, 0, 0}, {1, 1, 0}, {1, 2, 0}, {2, 1, 0}, {0, 2, 3}, {2, 0, 3}, {2, 2, 3}, {4, 0, 8}, {0, 4, 8}, {4, 4, 8}};
            for (int[] p : pairs) {
                SkewRings x = Scene.accepted(due, "P21 of " + p[0] + " and " + p[1] + " at " + s, maker,
                    y -> y.divisor(p[0], p[1], s, 5), p[2], 1 << 5);
                due.is("P21 MONIC", x.form(5, 0), 1);
                if (p[2] == 0) due.place("P21 with a NUMBER: 1", x, 5, "1");
                if (p[2] > 0) due.is("P21 with 0 or itself: it DIVIDES it", x.remainder(p[2] == 3 ? 2 : 4, 5, s, 0), -1);
            }
            Scene.refused(due, "P21 NONE: no such SIDE", maker, x -> x.divisor(1, 2, s + 2, 5), -1);
            Scene.refused(due, "P21 NONE: no such SIDE", maker, x -> x.divisor(1, 2, s - 2, 5), -1);
        }
    }

    /** "DEGREE; -2: one is 0; -3: its DEGREE is above 8" */
    private static void multiples(int f) {
        for (int side = 0; side < 2; side++) {
            int s = side;
            Scene.Maker none = Scene.of(f, "0", "2,1", "0", "3", "1,1");
            Scene.refused(due, "P22 -2: the first is 0", none, x -> x.multiple(0, 1, s, 4), -2);
            Scene.refused(due, "P22 -2: the second is 0", none, x -> x.multiple(1, 0, s, 4), -2);
            Scene.refused(due, "P22 -2: both are 0", none, x -> x.multiple(0, 2, s, 4), -2);
            Scene.refused(due, "P22 NONE: no such SIDE", none, x -> x.multiple(1, 3, s + 2, 4), -1);
            Scene.refused(due, "P22 NONE: no such SIDE", none, x -> x.multiple(1, 3, s - 2, 4), -1);
            SkewRings x = Scene.accepted(due, "P22 of NUMBERS", none, y -> y.multiple(3, 3, s, 5), 0, 1 << 5);
            due.place("P22 of NUMBERS: 1", x, 5, "1");
            // t^i and t^j + 1 share nothing (all is PLAIN), t^i and t^j the lesser.
            for (int i = 0; i <= 8; i++) {
                for (int j = 1; j <= 8; j++) {
                    Scene.Maker maker = Scene.of(f, power(i, 1), "1," + power(j - 1, 1), power(j, 1), "3,2");
                    String what = "P22 FIELD " + f + ": t^" + i + " and t^" + j + " + 1 at " + s;
                    if (i + j > 8) Scene.refused(due, what, maker, y -> y.multiple(0, 1, s, 3), -3);
                    else Scene.accepted(due, what, maker, y -> y.multiple(0, 1, s, 3), i + j, 1 << 3);
                    SkewRings y = maker.make();
                    due.is("P22 t^" + i + " and t^" + j, y.multiple(0, 2, s, 3), Math.max(i, j));
                    due.place("P22 t^" + i + " and t^" + j, y, 3, power(Math.max(i, j), 1));
                }
            }
        }
    }

    /** "till the second is 0: so often; the ROW: DEGREES of the REMAINDERS (NONE of 0)" */
    private static void steps(int f) {
        Scene.Maker maker = Scene.of(f, "0", "2", "1,2,1", "0", T8);
        for (int side = 0; side < 2; side++) {
            int s = side;
            int[][] none = {{0, 0}, {0, 3}, {1, 0}, {2, 0}, {4, 3}};
            for (int[] p : none) {
                SkewRings x = Scene.accepted(due, "P23 by 0: 0 times", maker, y -> y.steps(p[0], p[1], s), 0, Scene.ROW);
                due.row("P23 by 0", x);
            }
            int[][] once = {{0, 1}, {0, 4}, {1, 1}, {2, 1}, {4, 1}, {4, 4}};
            for (int[] p : once) {
                SkewRings x = Scene.accepted(due, "P23 once", maker, y -> y.steps(p[0], p[1], s), 1, Scene.ROW);
                due.row("P23 NONE of 0", x, -1);
            }
            SkewRings x = Scene.accepted(due, "P23 the lesser first", maker, y -> y.steps(1, 4, s), 2, Scene.ROW);
            due.row("P23 the lesser first", x, 0, -1);
            Scene.refused(due, "P23 NONE: no such SIDE", maker, y -> y.steps(2, 4, s + 2), -1);
            Scene.refused(due, "P23 NONE: no such SIDE", maker, y -> y.steps(2, 0, s - 2), -1);
        }
    }

    /** The most divisions that there can be: each REMAINDER is one DEGREE less. */
    private static void longestSteps() {
        for (int f : new int[] {0, 1, 3}) {
            SkewRings x = Due.fresh(f, "1,0,0,0,1,0,1,0,1", "0,0,0,0,0,0,0,1");
            for (int side = 0; side < 2; side++) {
                due.is("P23 DEGREES 8 and 7", x.steps(0, 1, side), 8);
                due.row("P23 DEGREES 8 and 7", x, 6, 5, 4, 3, 2, 1, 0, -1);
                due.is("P23 DEGREES 7 and 8", x.steps(1, 0, side), 9);
                due.row("P23 DEGREES 7 and 8", x, 7, 6, 5, 4, 3, 2, 1, 0, -1);
            }
        }
    }

    /** "-3: its DEGREE is above 8": that of the difference. */
    private static void crosses() {
        Scene.Maker maker = Scene.of(0, "0,0,0,0,0,1", "0,0,0,2", "0,0,0,0,2", "0,0,0,0,0,0,0,1,1", "0,2", "3,1");
        SkewRings x = Scene.accepted(due, "P24 DEGREE 8", maker, y -> y.crosses(0, 1, 5), 8, 1 << 5);
        due.place("P24 t^5 (2 t^3) less 2 t^3 t^5", x, 5, T8);
        Scene.refused(due, "P24 DEGREE 9", maker, y -> y.crosses(0, 2, 5), -3);
        Scene.refused(due, "P24 DEGREE 9, turned round", maker, y -> y.crosses(2, 0, 5), -3);
        x = Scene.accepted(due, "P24 what is above 8 falls away", maker, y -> y.crosses(3, 4, 5), 8, 1 << 5);
        due.place("P24 what is above 8 falls away", x, 5, T8);
        Scene.accepted(due, "P24 with itself: NONE of 0", maker, y -> y.crosses(3, 3, 5), -1, 1 << 5);
        Scene.Maker small = Scene.of(0, "0", "2", "3", "0,1", "1,0,1", "3,1");
        Scene.accepted(due, "P24 with 0", small, y -> y.crosses(0, 3, 5), -1, 1 << 5);
        Scene.accepted(due, "P24 NUMBERS commute", small, y -> y.crosses(1, 2, 5), -1, 1 << 5);
        x = Scene.accepted(due, "P24 2 t less t 2", small, y -> y.crosses(1, 3, 5), 1, 1 << 5);
        due.place("P24 2 t less t 2", x, 5, "0,1");
        Scene.accepted(due, "P24 a CENTRAL one", small, y -> y.crosses(4, 3, 5), -1, 1 << 5);
    }

    /** "MAP n times (-8 .. 8)"; "(no such n: -2, too)" */
    private static void mapped(int f) {
        Scene.Maker maker = Scene.of(f, "2,3,0,0,0,0,0,0,3", "0", "2,1");
        for (int n = -8; n <= 8; n++) {
            int turns = n;
            SkewRings x = Scene.accepted(due, "P25 n " + n, maker, y -> y.maps(0, turns, 2), 8, 1 << 2);
            due.is("P25 n " + n, x.number(2, 0), x.map(2, n));
            due.is("P25 n " + n, x.number(2, 1), x.map(3, n));
            due.is("P25 n " + n, x.number(2, 8), x.map(3, n));
        }
        Scene.accepted(due, "P25 of 0", maker, y -> y.maps(1, 8, 2), -1, 1 << 2);
        for (int n : new int[] {9, -9, 16, -16}) {
            Scene.refused(due, "P25 no such n " + n, maker, y -> y.maps(0, n, 2), -2);
            Scene.refused(due, "P25 no such n " + n + ", of 0", maker, y -> y.maps(1, n, 2), -2);
        }
    }

    /** "what LEADING was. -2: it is 0." */
    private static void monic(int f) {
        int last = Q[f] - 1;
        Scene.refused(due, "P26 -2: it is 0", Scene.of(f, "2,1"), y -> y.monic(1), -2);
        for (int n = 0; n <= 8; n++) {
            SkewRings x = Scene.accepted(due, "P26 DEGREE " + n, Scene.of(f, "2,1", power(n, last)), y -> y.monic(1), last, 1 << 1);
            due.place("P26 DEGREE " + n, x, 1, power(n, 1));
        }
        Scene.accepted(due, "P26 MONIC: nothing is changed", Scene.of(f, "2,1", "3,2,1"), y -> y.monic(1), 1, 0);
        Scene.accepted(due, "P26 the NUMBER 1", Scene.of(f, "2,1", "1"), y -> y.monic(1), 1, 0);
        SkewRings x = Due.fresh(f, "2,0,3," + P[f]);
        due.is("P26 LEADING w", x.monic(0), P[f]);
        due.is("P26 its inverse goes ahead", x.number(0, 0), x.times(x.inverse(P[f]), 2));
        due.is("P26 its inverse goes ahead", x.number(0, 2), x.times(x.inverse(P[f]), 3));
    }

    /** "what 0: LEADING (0 of 0) .. 2: .. (-2 of 0) .. NONE: another what." */
    private static void forms(int f) {
        Scene.Maker maker = Scene.of(f, "0", "1", "2", "0,0,0,0,0,0,0,0,3", "1,1,1,1,1,1,1,1,1", "0,1");
        int[][] want = {{0, 0, -2, 0}, {1, 1, 0, 1}, {2, 1, 0, 0}, {3, 1, 8, 0}, {1, 9, 0, 0}, {1, 1, 1, 0}};
        for (int i = 0; i < 6; i++) {
            for (int what = 0; what <= 3; what++) {
                int place = i;
                int w = what;
                Scene.accepted(due, "P27 PLACE " + i + ", what " + what, maker, x -> x.form(place, w), want[i][what], 0);
            }
            for (int what : new int[] {-1, 4}) {
                int place = i;
                Scene.refused(due, "P27 another what", maker, x -> x.form(place, what), -1);
            }
        }
        Scene.refused(due, "P27 no PLACE 6", maker, x -> x.form(6, 3), -1);
        Scene.refused(due, "P27 no PLACE -1", maker, x -> x.form(-1, 0), -1);
    }

    /** "the same: 1, else 0; the ROW: 1 if their PRODUCTS are the same both ways, else 0" */
    private static void same(int f) {
        int w = P[f];
        Scene.Maker maker = Scene.of(f, "0", "0,1", "0,1", "" + w, T8, power(8, 2) + "");
        int[][] rows = {{0, 0, 1, 1}, {0, 1, 0, 1}, {1, 0, 0, 1}, {1, 2, 1, 1}, {1, 1, 1, 1}, {1, 3, 0, 0}, {3, 1, 0, 0}, {4, 4, 1, 1},
            {4, 5, 0, f == 1 ? 0 : 1}, {4, 3, 0, f == 1 ? 0 : 1}};
        for (int[] r : rows) {
            SkewRings x = Scene.accepted(due, "P28 PLACES " + r[0] + " and " + r[1], maker, y -> y.same(r[0], r[1]), r[2], Scene.ROW);
            due.row("P28 FIELD " + f + ", PLACES " + r[0] + " and " + r[1] + " both ways", x, r[3]);
        }
        SkewRings y = Due.fresh(f, "1,2,1", "1,2,1,1", "1,2", "0,2,1", "1,3,1");
        for (int j = 1; j < 5; j++) due.is("P28 unlike in one thing", y.same(0, j), 0);
    }

    /** "n times (0 .. 8), as PRODUCT (0 times: 1)"; "(no such n: -2, too); -3: its DEGREE is above 8" */
    private static void powers(int f) {
        for (int d = 0; d <= 8; d++) {
            Scene.Maker maker = Scene.of(f, power(d, P[f]), "2,1");
            SkewRings product = Due.fresh(f, power(d, P[f]), "1");
            for (int n = 0; n <= 8; n++) {
                int times = n;
                String what = "P29 FIELD " + f + ": w t^" + d + ", " + n + " times";
                if (d * n > 8) {
                    Scene.refused(due, what, maker, x -> x.power(0, times, 1), -3);
                    Scene.refused(due, what + ", in place", maker, x -> x.power(0, times, 0), -3);
                    continue;
                }
                SkewRings x = Scene.accepted(due, what, maker, y -> y.power(0, times, 1), d * n, 1 << 1);
                due.place(what, x, 1, Due.at(product, 1));
                if (d * (n + 1) <= 8) product.multiplies(1, 0, 1);
            }
            Scene.refused(due, "P29 9 times", maker, x -> x.power(0, 9, 1), -2);
            Scene.refused(due, "P29 -1 times", maker, x -> x.power(0, -1, 1), -2);
        }
        Scene.Maker zero = Scene.of(f, "0", "2,1");
        SkewRings x = Scene.accepted(due, "P29 of 0, 0 times: 1", zero, y -> y.power(0, 0, 1), 0, 1 << 1);
        due.place("P29 of 0, 0 times: 1", x, 1, "1");
        for (int n = 1; n <= 8; n++) {
            int times = n;
            Scene.accepted(due, "P29 of 0, " + n + " times", zero, y -> y.power(0, times, 1), -1, 1 << 1);
        }
        Scene.refused(due, "P29 of 0, 9 times", zero, y -> y.power(0, 9, 1), -2);
        Scene.refused(due, "P29 of 0, -1 times", zero, y -> y.power(0, -1, 1), -2);
    }

    /** "-2: no such NUMBER, too; -3: c is 0" */
    private static void turned(int f) {
        Scene.Maker maker = Scene.of(f, power(8, 2), "0", "3", "2,1");
        Scene.refused(due, "P30 -3: c is 0", maker, x -> x.turned(0, 0, 3), -3);
        Scene.refused(due, "P30 -3: c is 0, of 0", maker, x -> x.turned(0, 1, 3), -3);
        Scene.refused(due, "P30 -2: c is q", maker, x -> x.turned(Q[f], 0, 3), -2);
        Scene.refused(due, "P30 -2: c is -1", maker, x -> x.turned(-1, 0, 3), -2);
        for (int c = 1; c < Q[f]; c++) {
            int by = c;
            SkewRings x = Scene.accepted(due, "P30 c " + c, maker, y -> y.turned(by, 0, 3), 8, 1 << 3);
            due.place("P30 FIELD " + f + ": c " + c + " passes t^8", x, 3, power(8, x.times(x.times(x.inverse(c), 2), x.map(c, 8))));
            x = Scene.accepted(due, "P30 of a NUMBER", maker, y -> y.turned(by, 2, 3), 0, 1 << 3);
            due.place("P30 of a NUMBER: it commutes", x, 3, "3");
            Scene.accepted(due, "P30 of 0", maker, y -> y.turned(by, 1, 3), -1, 1 << 3);
        }
        Scene.accepted(due, "P30 by 1, in place", maker, y -> y.turned(1, 3, 3), 1, 0);
    }

    /** "As long as the first of the second row is not 0"; "-2: both are 0; -3: k and l are one" */
    private static void cofactors(int f) {
        Scene.Maker maker = Scene.of(f, "0", "0,2", "0", "3", power(8, 2), "1,1");
        Scene.refused(due, "P31 -2: both are 0", maker, x -> x.cofactors(0, 2, 4, 5), -2);
        Scene.refused(due, "P31 -2: one PLACE of 0", maker, x -> x.cofactors(0, 0, 4, 5), -2);
        Scene.refused(due, "P31 -3: k and l are one", maker, x -> x.cofactors(1, 3, 5, 5), -3);
        Scene.refused(due, "P31 -3: k and l are one of those asked", maker, x -> x.cofactors(1, 3, 1, 1), -3);
        Scene.refused(due, "P31 -3: with 0", maker, x -> x.cofactors(1, 0, 5, 5), -3);
        String inverse2 = "" + maker.make().inverse(2);
        String inverse3 = "" + maker.make().inverse(3);
        rows(maker, 1, 0, 1, inverse2, "0");
        rows(maker, 0, 1, 1, "0", inverse2);
        rows(maker, 4, 0, 8, inverse2, "0");
        rows(maker, 0, 4, 8, "0", inverse2);
        rows(maker, 3, 0, 0, inverse3, "0");
        rows(maker, 0, 3, 0, "0", inverse3);
        rows(maker, 3, 3, 0, "0", inverse3);
        rows(maker, 4, 4, 8, "0", inverse2);
        rows(maker, 4, 3, 0, "0", inverse3);
        rows(maker, 3, 4, 0, inverse3, "0");
        SkewRings x = Scene.accepted(due, "P31 DEGREES 8 and 1", maker, y -> y.cofactors(4, 5, 4, 0), 0, 1 << 4 | 1);
        due.is("P31 DEGREES 8 and 1: that of the third", x.degree(0), 7);
        due.is("P31 DEGREES 8 and 1: that of the second", x.degree(4), 0);
    }

    private static void rows(Scene.Maker maker, int i, int j, int degree, String second, String third) {
        String what = "P31 of PLACES " + i + " and " + j;
        SkewRings x = Scene.accepted(due, what, maker, y -> y.cofactors(i, j, 5, 2), degree, 1 << 5 | 1 << 2);
        due.place(what + ": PLACE k", x, 5, second);
        due.place(what + ": PLACE l", x, 2, third);
    }
}
