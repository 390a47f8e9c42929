/** Promises 1 to 9: each sentence that names a boundary, on both sides of it. */
public final class EdgeFieldTest {
    private static final Due due = new Due();
    private static final int[] Q = {4, 8, 9, 16};
    private static final int[] P = {2, 2, 3, 2};
    private static final int[] M = {2, 3, 2, 4};

    public static void main(String[] args) {
        newObject();
        fieldRefused();
        fieldAnew();
        for (int f = 0; f < 4; f++) {
            sums(f);
            products(f);
            inverses(f);
            maps(f);
            norms(f);
            conjugates(f);
            classes(f);
        }
        due.finish("EdgeFieldTest");
    }

    /** "FIELD 0, all PLACES 0": and nothing else is there yet. */
    private static void newObject() {
        SkewRings x = new SkewRings();
        due.is("P1 'FIELD 0'", x.count(0), 0);
        due.is("P1 'all PLACES 0'", x.count(4), 0);
        for (int k = 0; k < 6; k++) due.is("P1 'all PLACES 0' " + k, x.degree(k), -1);
        due.is("P1 no FACTORS", x.count(5), 0);
        due.is("P1 no FACTORS", Due.factorAt(x, 1, 0), Scene.THROWS);
        due.row("P1 no ROW", x);
        due.is("P1 no THE TEXT", x.count(7), 0);
        due.is("P1 THE TEXT ends too early", x.tells(0), -21);
        SkewRings y = new SkewRings();
        y.field(3);
        y.sign(0x31323334);
        y.classes();
        SkewRings z = new SkewRings();
        due.is("P1 another object is not told of it", z.count(0) + z.count(6) + z.count(7), 0);
    }

    /** "-2: it is so (nothing is changed); NONE: no such one." */
    private static void fieldRefused() {
        for (int f = 0; f < 4; f++) {
            int same = f;
            Scene.refused(due, "P2 '-2: it is so'", Scene.usual(f), x -> x.field(same), -2);
            for (int none : new int[] {-1, 4, 5, Integer.MIN_VALUE, Integer.MAX_VALUE}) {
                Scene.refused(due, "P2 'NONE: no such one' " + none, Scene.usual(f), x -> x.field(none), -1);
            }
        }
    }

    /** "FIELD becomes f, all PLACES are 0, no FACTORS: q." The ROW and THE TEXT stay. */
    private static void fieldAnew() {
        for (int from = 0; from < 4; from++) {
            for (int to = 0; to < 4; to++) {
                if (from == to) continue;
                int f = to;
                String what = "P2 from FIELD " + from + " to " + to;
                SkewRings x = Scene.accepted(due, what, Scene.usual(from), y -> y.field(f), Q[to],
                    Scene.PLACES | Scene.FIELD | Scene.FACTORS);
                due.is(what + ": PLACES with something", x.count(4), 0);
                for (int k = 0; k < 6; k++) {
                    due.is(what + ": PLACE " + k, x.degree(k), -1);
                    for (int n = 0; n <= 8; n++) due.is(what + ": PLACE " + k, x.number(k, n), 0);
                }
                due.is(what + ": FACTORS", x.count(5), 0);
                due.is(what + ": factor(1, 0)", Due.factorAt(x, 1, 0), Scene.THROWS);
                due.is(what + ": FIELD", x.count(0), to);
                due.is(what + ": the greatest NUMBER", x.plus(Q[to] - 1, 0), Q[to] - 1);
                due.is(what + ": no such NUMBER", x.plus(Q[to], 0), -1);
                due.is(what + ": it is so now", x.field(to), -2);
                due.is(what + ": and back", x.field(from), Q[from]);
                due.is(what + ": and back, the greatest NUMBER", x.times(1, Q[from] - 1), Q[from] - 1);
                due.is(what + ": and back, no such NUMBER", x.times(1, Q[from]), -1);
                due.is(what + ": and back, the PLACES do not come again", x.count(4), 0);
            }
        }
    }

    private static int digit(int a, int p, int s) {
        for (; s > 0; s--) a /= p;
        return a % p;
    }

    /** "SUM of a and b": digits modulo p, 0 and q - 1 too. */
    private static void sums(int f) {
        SkewRings x = Due.fresh(f);
        int last = Q[f] - 1;
        due.is("P3 0 and 0", x.plus(0, 0), 0);
        due.is("P3 q - 1 and 0", x.plus(last, 0), last);
        int twice = x.plus(last, last);
        for (int s = 0; s < M[f]; s++) {
            due.is("P3 q - 1 and q - 1: digit " + s, digit(twice, P[f], s), (2 * (P[f] - 1)) % P[f]);
        }
        due.is("P3 q - 1 and 1: the lowest digit comes back to 0", x.plus(last, 1), last - (P[f] - 1));
        for (int a = 0; a < Q[f]; a++) {
            int sum = 0;
            for (int n = 0; n < P[f]; n++) sum = x.plus(sum, a);
            due.is("P3 p times " + a, sum, 0);
        }
        Scene.refused(due, "P3 a is q", Scene.usual(f), y -> y.plus(Q[f], 0), -1);
        Scene.refused(due, "P3 b is q", Scene.usual(f), y -> y.plus(0, Q[f]), -1);
        Scene.refused(due, "P3 a is -1", Scene.usual(f), y -> y.plus(-1, 0), -1);
        Scene.refused(due, "P3 b is -1", Scene.usual(f), y -> y.plus(0, -1), -1);
    }

    private static void products(int f) {
        SkewRings x = Due.fresh(f);
        int last = Q[f] - 1;
        for (int a = 0; a < Q[f]; a++) {
            due.is("P4 " + a + " by 0", x.times(a, 0), 0);
            due.is("P4 0 by " + a, x.times(0, a), 0);
            due.is("P4 " + a + " by 1", x.times(a, 1), a);
            due.is("P4 1 by " + a, x.times(1, a), a);
        }
        // (q - 1) squared: 3 3 = 2; 7 7 = 3; (2 + 2 w)(2 + 2 w) = (1 + w)(1 + w) = 1 + 2 w + w + 1 = 2; 15 15 = 10.
        due.is("P4 FIELD " + f + ": q - 1 by q - 1", x.times(last, last), new int[] {2, 3, 2, 10}[f]);
        Scene.refused(due, "P4 a is q", Scene.usual(f), y -> y.times(Q[f], 0), -1);
        Scene.refused(due, "P4 b is q", Scene.usual(f), y -> y.times(0, Q[f]), -1);
        Scene.refused(due, "P4 a is -1", Scene.usual(f), y -> y.times(-1, 0), -1);
        Scene.refused(due, "P4 b is -1", Scene.usual(f), y -> y.times(0, -1), -1);
    }

    /** "-2: a is 0." */
    private static void inverses(int f) {
        SkewRings x = Due.fresh(f);
        Scene.refused(due, "P5 '-2: a is 0'", Scene.usual(f), y -> y.inverse(0), -2);
        Scene.refused(due, "P5 a is q", Scene.usual(f), y -> y.inverse(Q[f]), -1);
        Scene.refused(due, "P5 a is -1", Scene.usual(f), y -> y.inverse(-1), -1);
        due.is("P5 of 1", x.inverse(1), 1);
        for (int a = 1; a < Q[f]; a++) due.is("P5 of " + a, x.times(x.inverse(a), a), 1);
    }

    /** "(k -8 .. 8)" */
    private static void maps(int f) {
        for (int a = 0; a < Q[f]; a++) {
            SkewRings x = Due.fresh(f);
            int forth = a;
            int back = a;
            for (int k = 1; k <= 8; k++) {
                forth = x.map(forth, 1);
                back = x.map(back, -1);
                due.is("P6 FIELD " + f + ": " + a + ", k " + k, x.map(a, k), forth);
                due.is("P6 FIELD " + f + ": " + a + ", k -" + k, x.map(a, -k), back);
            }
        }
        Scene.refused(due, "P6 k 9", Scene.usual(f), y -> y.map(1, 9), -1);
        Scene.refused(due, "P6 k -9", Scene.usual(f), y -> y.map(1, -9), -1);
        Scene.refused(due, "P6 k 9 of 0", Scene.usual(f), y -> y.map(0, 9), -1);
        Scene.refused(due, "P6 a is q", Scene.usual(f), y -> y.map(Q[f], 0), -1);
        Scene.refused(due, "P6 a is -1", Scene.usual(f), y -> y.map(-1, 0), -1);
    }

    /** "i of these in all (0 .. 8; 0: 1)" */
    private static void norms(int f) {
        SkewRings x = Due.fresh(f);
        for (int a = 0; a < Q[f]; a++) {
            due.is("P7 0 of these: 1, of " + a, x.norm(a, 0), 1);
            due.is("P7 one of these", x.norm(a, 1), a);
            int want = 1;
            for (int i = 1; i <= 8; i++) {
                want = x.times(want, x.map(a, i - 1));
                due.is("P7 FIELD " + f + ": " + a + ", i " + i, x.norm(a, i), want);
            }
        }
        Scene.refused(due, "P7 i 9", Scene.usual(f), y -> y.norm(1, 9), -1);
        Scene.refused(due, "P7 i -1", Scene.usual(f), y -> y.norm(1, -1), -1);
        Scene.refused(due, "P7 i -1 of 0", Scene.usual(f), y -> y.norm(0, -1), -1);
        Scene.refused(due, "P7 a is q, i 0", Scene.usual(f), y -> y.norm(Q[f], 0), -1);
        Scene.refused(due, "P7 a is -1, i 0", Scene.usual(f), y -> y.norm(-1, 0), -1);
    }

    /** "for all c but 0": 0 is in the set of 0 alone. */
    private static void conjugates(int f) {
        SkewRings zero = Scene.accepted(due, "P8 of 0", Scene.usual(f), y -> y.conjugates(0), 1, Scene.ROW);
        due.row("P8 of 0: one", zero, 1);
        for (int a = 1; a < Q[f]; a++) {
            SkewRings x = Due.fresh(f);
            int bits = x.conjugates(a);
            due.is("P8 0 is not in the set of " + a, bits & 1, 0);
            due.is("P8 " + a + " is (c 1)", bits >> a & 1, 1);
            due.is("P8 no bit from q on", bits >> Q[f], 0);
            due.is("P8 the ROW: how many", Due.rowAt(x, 0), Integer.bitCount(bits));
            for (int c = 1; c < Q[f]; c++) {
                int b = x.times(x.times(x.map(c, 1), a), x.inverse(c));
                due.is("P8 FIELD " + f + ": " + a + " by " + c, bits >> b & 1, 1);
            }
        }
        int last = Due.fresh(f).conjugates(Q[f] - 1);
        due.is("P8 the last NUMBER's set has it", last >> Q[f] - 1 & 1, 1);
        Scene.refused(due, "P8 a is q", Scene.usual(f), y -> y.conjugates(Q[f]), -1);
        Scene.refused(due, "P8 a is -1", Scene.usual(f), y -> y.conjugates(-1), -1);
    }

    /** "(that of 0, too)"; "the least NUMBER of each, the lesser first" */
    private static void classes(int f) {
        SkewRings x = Scene.accepted(due, "P9 FIELD " + f, Scene.of(f, "2,1"), SkewRings::classes, f == 2 ? 3 : 2, Scene.ROW);
        if (f == 2) due.row("P9 that of 0 is the first", x, 0, 1, 3);
        else due.row("P9 that of 0 is the first", x, 0, 1);
        int many = x.count(6);
        int all = 0;
        for (int i = 0; i < many; i++) {
            x.classes();
            int least = (int) Due.rowAt(x, i);
            int bits = x.conjugates(least);
            due.is("P9 the least of its set", Integer.numberOfTrailingZeros(bits), least);
            due.is("P9 unlike sets", all & bits, 0);
            all |= bits;
        }
        due.is("P9 each NUMBER is in one", all, (1 << Q[f]) - 1);
    }
}
