/** Promises 32 to 42: each sentence that names a boundary, on both sides of it. THE TEXT of fits(): EdgeTextTest. */
public final class EdgeValueTest {
    private static final Due due = new Due();
    private static final int[] Q = {4, 8, 9, 16};
    private static final int[] P = {2, 2, 3, 2};
    private static final int[] M = {2, 3, 2, 4};

    public static void main(String[] args) {
        for (int f = 0; f < 4; f++) {
            fitsOrNone(f);
            fitsOfGreatestDegree(f);
            values(f);
            roots(f);
            does(f);
            kernels(f);
            solves(f);
            bases(f);
            shares(f);
            eigen(f);
            vanishes(f);
        }
        reaches();
        reachesMost();
        due.finish("EdgeValueTest");
    }

    private static String minus(SkewRings x, int a) {
        return "" + x.times(a, P[x.count(0)] - 1);
    }

    /** "the one of least DEGREE .. : DEGREE (NONE of 0, too)"; "-3: none has" */
    private static void fitsOrNone(int f) {
        SkewRings x = Scene.accepted(due, "P32 0 everywhere", Scene.told(f, "0:0,1:0,2:0", "2,1", "1,1"), y -> y.fits(1), -1,
            1 << 1 | Scene.TEXT);
        due.place("P32 NONE of 0", x, 1, "0");
        // 1 and two others like it: two VALUES there tell the third, or none has.
        SkewRings z = Due.fresh(f);
        int bits = z.conjugates(1);
        int second = Integer.numberOfTrailingZeros(bits & ~2);
        SkewRings line = Scene.told(f, "1:2," + second + ":1").make();
        due.is("P32 two VALUES", line.fits(0), 1);
        int many = 0;
        for (int third = second + 1; third < Q[f]; third++) {
            line.vanishes(2 | 1 << second, 1);
            if (line.value(1, third) != 0) continue;
            many++;
            for (int v = 0; v < Q[f]; v++) {
                String s = "1:2," + second + ":1," + third + ":" + v;
                Scene.Maker maker = Scene.told(f, s, "2,1", "3,2,1");
                if (v == line.value(0, third)) {
                    SkewRings y = Scene.accepted(due, "P32 the VALUE that is told by the others", maker, w -> w.fits(1), 1,
                        1 << 1 | Scene.TEXT);
                    due.place("P32 the same one", y, 1, Due.at(line, 0));
                } else {
                    Scene.refusedReading(due, "P32 '-3: none has' " + s, maker, w -> w.fits(1), -3);
                }
            }
        }
        due.holds("P32 there are such thirds", many > 0);
    }

    /** The greatest DEGREE that is needed: one less than that of what is 0 on all. */
    private static void fitsOfGreatestDegree(int f) {
        SkewRings z = Due.fresh(f);
        int rank = z.basis(z.count(1) == 16 ? 65535 : (1 << Q[f]) - 1);
        int taken = (int) z.row(0);
        StringBuilder s = new StringBuilder();
        int left = rank;
        for (int a = 0; a < Q[f]; a++) {
            if ((taken >> a & 1) == 0) continue;
            left--;
            s.append(a).append(left == 0 ? ":1" : ":0,");
        }
        SkewRings x = Scene.accepted(due, "P32 " + s, Scene.told(f, s.toString()), y -> y.fits(5), rank - 1, 1 << 5 | Scene.TEXT);
        for (int a = 0, n = 0; a < Q[f]; a++) {
            if ((taken >> a & 1) == 1) due.is("P32 VALUE at " + a, x.value(5, a), ++n == rank ? 1 : 0);
        }
    }

    /** a 0 .. q - 1; of 0, of a NUMBER, of DEGREE 8. */
    private static void values(int f) {
        Scene.Maker maker = Scene.of(f, "0", "3", "1,0,0,0,0,0,0,0," + P[f], "2,1");
        for (int a = 0; a < Q[f]; a++) {
            int at = a;
            Scene.accepted(due, "P33 of 0", maker, x -> x.value(0, at), 0, 0);
            Scene.accepted(due, "P33 of a NUMBER", maker, x -> x.value(1, at), 3, 0);
            SkewRings x = maker.make();
            due.is("P33 of DEGREE 8 at " + a, x.value(2, a), x.plus(1, x.times(P[f], x.norm(a, 8))));
            due.is("P33 of DEGREE 1 at " + a, x.value(3, a), x.plus(2, a));
        }
        Scene.refused(due, "P33 a is q", maker, x -> x.value(3, Q[f]), -1);
        Scene.refused(due, "P33 a is -1", maker, x -> x.value(3, -1), -1);
        Scene.refused(due, "P33 a is q, of 0", maker, x -> x.value(0, Q[f]), -1);
    }

    private static void roots(int f) {
        int all = (1 << Q[f]) - 1;
        int last = Q[f] - 1;
        SkewRings z = new SkewRings();
        z.field(f);
        Scene.Maker maker = Scene.of(f, "0", "1", minus(z, last) + ",1", "0,0,0,0,0,0,0,0,1", "0,1");
        row(Scene.accepted(due, "P34 of 0: all", maker, x -> x.roots(0), all, Scene.ROW), "P34 how many", Q[f]);
        row(Scene.accepted(due, "P34 of a NUMBER: none", maker, x -> x.roots(1), 0, Scene.ROW), "P34 how many", 0);
        row(Scene.accepted(due, "P34 of t - (q - 1): the highest bit", maker, x -> x.roots(2), 1 << last, Scene.ROW), "P34 how many", 1);
        row(Scene.accepted(due, "P34 of t^8: the lowest bit", maker, x -> x.roots(3), 1, Scene.ROW), "P34 how many", 1);
        Scene.refused(due, "P34 no PLACE", maker, x -> x.roots(6), -1);
    }

    private static void row(SkewRings x, String what, long... want) {
        due.row(what, x, want);
    }

    private static void does(int f) {
        Scene.Maker maker = Scene.of(f, "0", "3", "0,0,0,0,0,0,0,0,2", "1,1");
        for (int v = 0; v < Q[f]; v++) {
            int on = v;
            Scene.accepted(due, "P35 0 does all to 0", maker, x -> x.does(0, on), 0, 0);
            SkewRings x = maker.make();
            due.is("P35 a NUMBER", x.does(1, v), x.times(3, v));
            due.is("P35 DEGREE 8", x.does(2, v), x.times(2, x.map(v, 8)));
            due.is("P35 1 + t", x.does(3, v), x.plus(v, x.map(v, 1)));
        }
        Scene.refused(due, "P35 x is q", maker, x -> x.does(3, Q[f]), -1);
        Scene.refused(due, "P35 x is -1", maker, x -> x.does(3, -1), -1);
    }

    /** "as bits; the ROW: how many; to how many unlike NUMBERS it does all" */
    private static void kernels(int f) {
        int all = (1 << Q[f]) - 1;
        String nothing = P[f] - 1 + ",0".repeat(M[f] - 1) + ",1";
        Scene.Maker maker = Scene.of(f, "0", "1", "0,1", nothing, P[f] - 1 + ",1");
        row(Scene.accepted(due, "P36 of 0: all", maker, x -> x.kernel(0), all, Scene.ROW), "P36 of 0", Q[f], 1);
        row(Scene.accepted(due, "P36 of 1: 0 alone", maker, x -> x.kernel(1), 1, Scene.ROW), "P36 of 1", 1, Q[f]);
        row(Scene.accepted(due, "P36 of t: 0 alone", maker, x -> x.kernel(2), 1, Scene.ROW), "P36 of t", 1, Q[f]);
        row(Scene.accepted(due, "P36 of t^m - 1: all", maker, x -> x.kernel(3), all, Scene.ROW), "P36 of t^m - 1", Q[f], 1);
        row(Scene.accepted(due, "P36 of t - 1: the PLAIN ones", maker, x -> x.kernel(4), (1 << P[f]) - 1, Scene.ROW), "P36 of t - 1",
            P[f], Q[f] / P[f]);
    }

    private static void solves(int f) {
        int all = (1 << Q[f]) - 1;
        Scene.Maker maker = Scene.of(f, "0", "1", "0,1", P[f] - 1 + ",1");
        row(Scene.accepted(due, "P37 of 0, v 0: all", maker, x -> x.solves(0, 0), all, Scene.ROW), "P37 of 0", Q[f]);
        row(Scene.accepted(due, "P37 of 0, v 1: none", maker, x -> x.solves(0, 1), 0, Scene.ROW), "P37 of 0", 0);
        for (int v = 0; v < Q[f]; v++) {
            int to = v;
            row(Scene.accepted(due, "P37 of 1", maker, x -> x.solves(1, to), 1 << v, Scene.ROW), "P37 of 1", 1);
            SkewRings x = maker.make();
            due.is("P37 of t", x.solves(2, v), 1 << x.map(v, -1));
            int bits = x.solves(3, v);
            due.holds("P37 of t - 1: none, or p", bits == 0 || Integer.bitCount(bits) == P[f]);
            due.row("P37 of t - 1: how many", x, Integer.bitCount(bits));
        }
        Scene.refused(due, "P37 v is q", maker, x -> x.solves(0, Q[f]), -1);
        Scene.refused(due, "P37 v is -1", maker, x -> x.solves(0, -1), -1);
    }

    /** "The least n (1 .. 300) .. -2: it is 0; -3: none such." */
    private static void reaches() {
        for (int f = 0; f < 4; f++) {
            Scene.Maker maker = Scene.of(f, "0", "2", P[f] - 1 + ",1", "0,1", "0,1,1", P[f] - 1 + ",0,0,0,0,0,0,0,1");
            Scene.refused(due, "P38 -2: it is 0", maker, x -> x.reaches(0), -2);
            Scene.accepted(due, "P38 a NUMBER DIVIDES t less 1", maker, x -> x.reaches(1), 1, 0);
            Scene.accepted(due, "P38 t less 1", maker, x -> x.reaches(2), 1, 0);
            Scene.refused(due, "P38 -3: t DIVIDES none", maker, x -> x.reaches(3), -3);
            Scene.refused(due, "P38 -3: t t + t DIVIDES none", maker, x -> x.reaches(4), -3);
            Scene.accepted(due, "P38 t^8 less 1", maker, x -> x.reaches(5), 8, 0);
            Scene.refused(due, "P38 no PLACE", maker, x -> x.reaches(6), -1);
            // t - a DIVIDES t^n less 1 if norm(a, n) is 1.
            for (int a = 1; a < Q[f]; a++) {
                SkewRings x = maker.make();
                int n = 1;
                int norm = a;
                for (int b = x.map(a, 1); norm != 1; b = x.map(b, 1)) {
                    norm = x.times(norm, b);
                    n++;
                }
                x.end(0);
                Due.put(x, 5, minus(x, a) + ",1");
                due.is("P38 FIELD " + f + ": t - " + a, x.reaches(5), n);
            }
        }
    }

    /** Those next to 300 that there are: none of DEGREE 8 at most has its least n between 288 and 312. */
    private static void reachesMost() {
        Object[][] within = {{0, "1,0,1,1,0,0,1,0,1", 255}, {1, "6,2,4,2,1,5,1,7,1", 279}, {2, "7,2,6,1,0,2,6,1,1", 288},
            {2, "2,2,2,2,2,1,2,0,1", 286}, {3, "1,0,1,1,0,0,1,0,1", 255}};
        for (Object[] w : within) {
            Scene.accepted(due, "P38 within 300: " + w[1], Scene.of((int) w[0], (String) w[1]), x -> x.reaches(0), (int) w[2], 0);
        }
        // These DIVIDE t^315 less 1, t^312 less 1, t^336 less 1 first.
        Object[][] beyond = {{1, "7,0,0,1,0,3,5,5,1"}, {2, "8,5,1,1,8,0,7,5,1"}, {3, "14,7,10,1,6,4,2,5,1"}};
        for (Object[] b : beyond) {
            Scene.refused(due, "P38 beyond 300: " + b[1], Scene.of((int) b[0], (String) b[1]), x -> x.reaches(0), -3);
        }
    }

    /** "(1 at first)"; "NONE: no such set." */
    private static void bases(int f) {
        int all = (1 << Q[f]) - 1;
        Scene.Maker maker = Scene.of(f, "2,1");
        row(Scene.accepted(due, "P39 the empty set", maker, x -> x.basis(0), 0, Scene.ROW), "P39 the empty set", 0);
        for (int a = 0; a < Q[f]; a++) {
            int one = 1 << a;
            row(Scene.accepted(due, "P39 one NUMBER", maker, x -> x.basis(one), 1, Scene.ROW), "P39 one NUMBER", one);
        }
        int rank = f == 2 ? 5 : M[f] + 1;
        SkewRings x = Scene.accepted(due, "P39 all NUMBERS", maker, y -> y.basis(all), rank, Scene.ROW);
        int taken = (int) x.row(0);
        due.is("P39 all: the least are taken", taken & 7, 7);
        due.is("P39 all: so many", Integer.bitCount(taken), rank);
        int second = Scene.usual(f).make().basis(all & ~1);
        due.is("P39 all but 0", second, rank - 1);
        for (int set : new int[] {all + 1, -1, Integer.MIN_VALUE, Integer.MAX_VALUE, all + 1 | 1}) {
            Scene.refused(due, "P39 NONE: no such set " + set, maker, y -> y.basis(set), -1);
        }
    }

    /** "those of the first alone, of the second alone" */
    private static void shares(int f) {
        int all = (1 << Q[f]) - 1;
        Scene.Maker maker = Scene.of(f, "0", "1", "0,1", "0", "2");
        row(Scene.accepted(due, "P40 0 and 0", maker, x -> x.shares(0, 3), all, Scene.ROW), "P40 0 and 0", 0, 0);
        row(Scene.accepted(due, "P40 0 and 1", maker, x -> x.shares(0, 1), 0, Scene.ROW), "P40 0 and 1", all, 0);
        row(Scene.accepted(due, "P40 1 and 0", maker, x -> x.shares(1, 0), 0, Scene.ROW), "P40 1 and 0", 0, all);
        row(Scene.accepted(due, "P40 t and 0", maker, x -> x.shares(2, 0), 1, Scene.ROW), "P40 t and 0", 0, all - 1);
        row(Scene.accepted(due, "P40 NUMBERS", maker, x -> x.shares(1, 4), 0, Scene.ROW), "P40 NUMBERS", 0, 0);
        row(Scene.accepted(due, "P40 with itself", maker, x -> x.shares(2, 2), 1, Scene.ROW), "P40 with itself", 0, 0);
        Scene.refused(due, "P40 no PLACE i", maker, x -> x.shares(6, 0), -1);
        Scene.refused(due, "P40 no PLACE j", maker, x -> x.shares(0, -1), -1);
    }

    /** "some x but 0"; "of each of these, the least first, the least such x" */
    private static void eigen(int f) {
        int last = Q[f] - 1;
        Scene.Maker maker = Scene.of(f, "0", "" + last, "0,1", P[f] - 1 + ",1");
        row(Scene.accepted(due, "P41 of 0: 0 alone", maker, x -> x.eigen(0), 1, Scene.ROW), "P41 of 0: x 1, not 0", 1);
        row(Scene.accepted(due, "P41 of a NUMBER: it alone", maker, x -> x.eigen(1), 1 << last, Scene.ROW), "P41 of a NUMBER", 1);
        SkewRings x = maker.make();
        int bits = x.eigen(2);
        due.is("P41 of t: not 0", bits & 1, 0);
        due.is("P41 of t: the ROW has one of each", x.count(6), Integer.bitCount(bits));
        SkewRings y = maker.make();
        due.is("P41 of t: what MAP(x) less x is", bits, y.conjugates(1));
        int n = 0;
        for (int a = 0; a < Q[f]; a++) {
            if ((bits >> a & 1) == 0) continue;
            int least = 1;
            while (y.map(least, 1) != y.times(a, least)) least++;
            due.is("P41 FIELD " + f + ": the least x of " + a, Due.rowAt(x, n++), least);
        }
        int shifted = x.eigen(3);
        due.is("P41 of t - 1: 0, by the PLAIN ones", shifted & 1, 1);
        due.is("P41 of t - 1: the least x of 0", x.row(0), 1);
        due.is("P41 of t - 1: as of t, less 1", Integer.bitCount(shifted), Integer.bitCount(bits));
    }

    /** "(1 of an empty set)"; "the ROW: its ROOTS"; "NONE: no such set." */
    private static void vanishes(int f) {
        int all = (1 << Q[f]) - 1;
        Scene.Maker maker = Scene.of(f, "2,1", "1,1,1,1,1,1,1,1,1");
        SkewRings x = Scene.accepted(due, "P42 an empty set", maker, y -> y.vanishes(0, 1), 0, 1 << 1 | Scene.ROW);
        due.place("P42 1 of an empty set", x, 1, "1");
        due.row("P42 an empty set: no ROOTS", x, 0);
        for (int a = 0; a < Q[f]; a++) {
            int one = 1 << a;
            x = Scene.accepted(due, "P42 one NUMBER", maker, y -> y.vanishes(one, 1), 1, 1 << 1 | Scene.ROW);
            due.place("P42 t less " + a, x, 1, minus(x, a) + ",1");
            due.row("P42 that ROOT alone", x, one);
        }
        int rank = f == 2 ? 5 : M[f] + 1;
        x = Scene.accepted(due, "P42 all NUMBERS", maker, y -> y.vanishes(all, 1), rank, 1 << 1 | Scene.ROW);
        due.row("P42 all are ROOTS", x, all);
        // (t^m - 1) t where p is 2; (t^4 - 1) t over 9.
        due.place("P42 all NUMBERS", x, 1, "0," + (P[f] - 1) + ",0".repeat(rank - 2) + ",1");
        x = Scene.accepted(due, "P42 all but 0", maker, y -> y.vanishes(all - 1, 1), rank - 1, 1 << 1 | Scene.ROW);
        due.row("P42 all but 0", x, all - 1);
        for (int set : new int[] {all + 1, -1, Integer.MIN_VALUE, Integer.MAX_VALUE}) {
            Scene.refused(due, "P42 NONE: no such set " + set, maker, y -> y.vanishes(set, 1), -1);
        }
        Scene.refused(due, "P42 no PLACE 6", maker, y -> y.vanishes(0, 6), -1);
        Scene.refused(due, "P42 no PLACE -1", maker, y -> y.vanishes(all, -1), -1);
    }
}
