/** Promises 32 to 42: values, roots, and what polynomials do as maps of the field. */
public final class ValueTest {
    private static final Due due = new Due();
    private static final int[] Q = {4, 8, 9, 16};

    public static void main(String[] args) {
        fits();
        fitsEverywhere();
        values();
        roots();
        does();
        kernels();
        solves();
        reaches();
        bases();
        shares();
        eigen();
        vanishes();
        due.finish("ValueTest");
    }

    private static int fit(SkewRings x, String couples, int k) {
        Due.text(x, couples);
        return x.fits(k);
    }

    private static void fits() {
        SkewRings x = Due.fresh(0, "1,1");
        due.is("P32 one couple", fit(x, "1:2", 3), 0);
        due.place("P32 one couple", x, 3, "2");
        due.is("P32 two couples", fit(x, "1:2,2:1", 3), 1);
        due.place("P32 two couples", x, 3, "3,1");
        due.is("P32 none has", fit(x, "1:2,2:1,3:1", 3), -3);
        due.place("P32 none has: as it was", x, 3, "3,1");
        due.is("P32 the third by the others", fit(x, "1:2,2:1,3:" + x.value(3, 3), 3), 1);
        due.place("P32 the third by the others", x, 3, "3,1");
        due.is("P32 0", fit(x, "1:0,3:00", 3), -1);
        due.place("P32 0", x, 3, "0");
        due.is("P32 the same everywhere", fit(x, "3:2,0:2,01:02", 0), 0);
        due.place("P32 the same everywhere", x, 0, "2");
        SkewRings y = Due.fresh(3);
        due.is("P32 six", fit(y, "00:15,1:14,2:13,3:" + thirdOf(y, 15, 14, 13) + ",4:12,8:11", 5), 4);
        due.is("P32 six", y.value(5, 8), 11);
        SkewRings z = Due.fresh(2, "1,1");
        due.is("P32 all classes", fit(z, "0:1,1:0,2:0,3:0,5:0", 5), 4);
        due.is("P32 no such PLACE", fit(z, "0:1", 6), -100);
    }

    /** 3 is 1 and 2: so its VALUE hangs on theirs and that at 0 by the one of DEGREE 2 that has these three. */
    private static int thirdOf(SkewRings x, int at0, int at1, int at2) {
        fit(x, "0:" + at0 + ",1:" + at1 + ",2:" + at2, 4);
        return x.value(4, 3);
    }

    /** What fits has the VALUES, is below the number of couples, and is found again from more of its VALUES. */
    private static void fitsEverywhere() {
        for (int f = 0; f < 4; f++) {
            for (int first = 0; first < Q[f] - 3; first++) {
                SkewRings x = Due.fresh(f);
                StringBuilder s = new StringBuilder();
                for (int n = 0; n < 3; n++) s.append(n > 0 ? "," : "").append(first + n).append(':').append((first * 5 + n * 7 + 1) % Q[f]);
                int d = fit(x, s.toString(), 0);
                if (d == -3) continue;
                due.holds("P32 field " + f + " " + s + " below 3", d < 3);
                for (int n = 0; n < 3; n++) due.is("P32 " + s, x.value(0, first + n), (first * 5 + n * 7 + 1) % Q[f]);
                s.append(',').append(first + 3).append(':').append(x.value(0, first + 3));
                due.is("P32 " + s, fit(x, s.toString(), 1), d);
                due.place("P32 " + s, x, 1, Due.at(x, 0));
            }
        }
    }

    private static void values() {
        SkewRings x = Due.fresh(0, "2,1", "1,0,1", "0", "3");
        int[] want = {2, 3, 0, 1};
        for (int a = 0; a < 4; a++) {
            due.is("P33 t + 2 at " + a, x.value(0, a), want[a]);
            due.is("P33 1 + t t at " + a, x.value(1, a), a == 0 ? 1 : 0);
            due.is("P33 0 at " + a, x.value(2, a), 0);
            due.is("P33 3 at " + a, x.value(3, a), 3);
        }
        due.is("P33 no such NUMBER", x.value(0, 4), -1);
        due.is("P33 no such NUMBER", x.value(0, -1), -1);
        due.is("P33 no such PLACE", x.value(6, 0), -1);
        due.is("P33 no such PLACE", x.value(-1, 0), -1);
        for (int f = 0; f < 4; f++) {
            SkewRings y = Due.fresh(f, "1,3,2,0,3,1,2,0,1");
            for (int a = 0; a < Q[f]; a++) {
                Due.put(y, 1, minus(y, a) + ",1");
                y.remainder(0, 1, 0, 2);
                due.is("P33 field " + f + " the REMAINDER by t - " + a, y.value(0, a), y.number(2, 0));
            }
        }
    }

    private static String minus(SkewRings x, int a) {
        for (int b = 0; b < 16; b++) if (x.plus(a, b) == 0) return "" + b;
        throw new IllegalArgumentException();
    }

    private static void roots() {
        SkewRings x = Due.fresh(2, "1,1", "2,0,1", "0", "5", "1,0,1");
        due.is("P34 t + 1", x.roots(0), 4);
        due.row("P34 t + 1", x, 1);
        due.is("P34 t t + 2", x.roots(1), 278);
        due.row("P34 t t + 2", x, 4);
        due.is("P34 of 0", x.roots(2), 511);
        due.row("P34 of 0", x, 9);
        due.is("P34 of a number", x.roots(3), 0);
        due.row("P34 of a number", x, 0);
        due.is("P34 t t + 1", x.roots(4), 511 - 278 - 1);
        due.row("P34 t t + 1", x, 4);
        due.is("P34 no such PLACE", x.roots(6), -1);
        due.is("P34 no such PLACE", x.roots(-1), -1);
        due.row("P34 refused", x, 4);
    }

    private static void does() {
        SkewRings x = Due.fresh(0, "2,1", "0", "0,0,0,1");
        int[] want = {0, 3, 0, 3};
        for (int v = 0; v < 4; v++) {
            due.is("P35 2 x + MAP(x) at " + v, x.does(0, v), want[v]);
            due.is("P35 0 at " + v, x.does(1, v), 0);
            due.is("P35 t t t at " + v, x.does(2, v), x.map(v, 1));
        }
        due.is("P35 no such NUMBER", x.does(0, 4), -1);
        due.is("P35 no such NUMBER", x.does(0, -1), -1);
        due.is("P35 no such PLACE", x.does(6, 1), -1);
        due.is("P35 no such PLACE", x.does(-1, 1), -1);
    }

    private static void kernels() {
        SkewRings x = Due.fresh(3, "1,1", "1,0,1", "0", "7", "1,0,0,0,1", "1,1,1,1");
        due.is("P36 t + 1: the PLAIN ones", x.kernel(0), 3);
        due.row("P36", x, 2, 8);
        due.is("P36 t t + 1: those of four", x.kernel(1), 1 | 2 | 1 << 6 | 1 << 7);
        due.row("P36", x, 4, 4);
        due.is("P36 of 0", x.kernel(2), 65535);
        due.row("P36 of 0", x, 16, 1);
        due.is("P36 of a number", x.kernel(3), 1);
        due.row("P36 of a number", x, 1, 16);
        due.is("P36 t t t t + 1", x.kernel(4), 65535);
        due.row("P36", x, 16, 1);
        x.kernel(5);
        due.row("P36 the trace", x, 8, 2);
        due.is("P36 no such PLACE", x.kernel(6), -1);
        due.is("P36 no such PLACE", x.kernel(-1), -1);
        due.row("P36 refused", x, 8, 2);
    }

    private static void solves() {
        SkewRings x = Due.fresh(0, "2,1", "0");
        due.is("P37", x.solves(0, 3), 10);
        due.row("P37", x, 2);
        due.is("P37", x.solves(0, 0), 5);
        due.row("P37", x, 2);
        due.is("P37 none", x.solves(0, 1), 0);
        due.row("P37 none", x, 0);
        due.is("P37 of 0", x.solves(1, 0), 15);
        due.row("P37 of 0", x, 4);
        due.is("P37 no such NUMBER", x.solves(0, 4), -1);
        due.is("P37 no such NUMBER", x.solves(0, -1), -1);
        due.is("P37 no such PLACE", x.solves(6, 0), -1);
        due.is("P37 no such PLACE", x.solves(-1, 0), -1);
        due.row("P37 refused", x, 4);
    }

    private static void reaches() {
        SkewRings x = Due.fresh(0, "1,1", "2,1", "0,1", "0", "3", "1,0,1,1");
        due.is("P38 t + 1", x.reaches(0), 1);
        due.is("P38 t + 2", x.reaches(1), 2);
        due.is("P38 t", x.reaches(2), -3);
        due.is("P38 of 0", x.reaches(3), -2);
        due.is("P38 of a number", x.reaches(4), 1);
        due.is("P38 t t + 2 t is never one", x.multiplies(2, 1, 2) > 0 ? x.reaches(2) : 0, -3);
        due.is("P38 no such PLACE", x.reaches(6), -1);
        due.is("P38 no such PLACE", x.reaches(-1), -1);
        SkewRings y = Due.fresh(0, "1,0,0,0,0,0,0,0,1", "1,1", "1,0,0,0,0,0,0,1");
        due.is("P38 t^8 less 1", y.reaches(0), 8);
        due.is("P38 (t + 1)^3", y.power(1, 3, 3) > 0 ? y.reaches(3) : 0, 4);
        due.is("P38 (t + 1)^6", y.power(1, 6, 3) > 0 ? y.reaches(3) : 0, 8);
        due.is("P38 t^7 less 1", y.reaches(2), 7);
        SkewRings z = Due.fresh(2, "2,0,1,0,0,1", "1,1", "2,1");
        due.is("P38 t + 1 over 9", z.reaches(1), 2);
        due.is("P38 t - 1 over 9", z.reaches(2), 1);
        due.is("P38 (t - 1)^2 over 9", z.power(2, 2, 3) > 0 ? z.reaches(3) : 0, 3);
        // PLAIN numbers: t is as in ordinary polynomials, where t^8 + t^4 + t^3 + t^2 + 1 reaches 255 and others more.
        SkewRings p = Due.fresh(0, "1,0,1,1,1,0,0,0,1", "1,0,1,0,0,0,1");
        due.is("P38 255", p.reaches(0), 255);
        long most = 0;
        for (int i = 0; i < 81; i++) {
            z = Due.fresh(2);
            Due.put(z, 4, (1 + i % 2) + "," + i / 2 % 3 + "," + i / 6 % 3 + "," + i / 18 % 3 + ",0,1");
            int n = z.reaches(4);
            due.holds("P38 up to 300 at most", n == -3 || n >= 1 && n <= 300);
            most = Math.max(most, n);
        }
        due.is("P38 3^5 less 1", most, 242);
    }

    private static void bases() {
        SkewRings x = Due.fresh(0);
        due.is("P39", x.basis(6), 2);
        due.row("P39", x, 6);
        due.is("P39 3 hangs on 1 and 2", x.basis(14), 2);
        due.row("P39", x, 6);
        due.is("P39 all", x.basis(15), 3);
        due.row("P39 all", x, 7);
        due.is("P39 the empty set", x.basis(0), 0);
        due.row("P39 the empty set", x, 0);
        due.is("P39 no such set", x.basis(16), -1);
        due.is("P39 no such set", x.basis(-1), -1);
        due.row("P39 refused", x, 0);
        SkewRings y = Due.fresh(2);
        due.is("P39 over 9", y.basis(511), 5);
        due.row("P39 two of each class", y, 1 | 2 | 4 | 8 | 32);
        due.is("P39 over 9", y.basis(512), -1);
        SkewRings z = Due.fresh(3);
        due.is("P39 over 16", z.basis(65535), 5);
        due.is("P39 over 16: the first is 0", Due.rowAt(z, 0) & 1, 1);
        int taken = 0;
        for (int a = 0; a < 16; a++) {
            z.vanishes(taken, 0);
            if (z.value(0, a) != 0) taken |= 1 << a;
        }
        z.basis(65535);
        due.row("P39 over 16", z, taken);
        due.is("P39 over 16", z.basis(65536), -1);
    }

    private static void shares() {
        SkewRings x = Due.fresh(0, "2,1", "3,1", "1,0,1", "0");
        due.is("P40", x.shares(0, 1), 0);
        due.row("P40", x, 4, 8);
        due.is("P40", x.shares(2, 0), 4);
        due.row("P40", x, 10, 0);
        due.is("P40", x.shares(0, 2), 4);
        due.row("P40", x, 0, 10);
        due.is("P40 with 0", x.shares(3, 2), 14);
        due.row("P40 with 0", x, 1, 0);
        due.is("P40 no such PLACE", x.shares(6, 0), -1);
        due.is("P40 no such PLACE", x.shares(0, -1), -1);
        due.row("P40 refused", x, 1, 0);
    }

    private static void eigen() {
        SkewRings x = Due.fresh(0, "2,1", "0", "3", "0,1");
        due.is("P41", x.eigen(0), 11);
        due.row("P41", x, 2, 3, 1);
        due.is("P41 of 0", x.eigen(1), 1);
        due.row("P41 of 0", x, 1);
        due.is("P41 of a number", x.eigen(2), 8);
        due.row("P41 of a number", x, 1);
        due.is("P41 of t", x.eigen(3), 14);
        due.row("P41 of t", x, 1, 2, 3);
        due.is("P41 no such PLACE", x.eigen(6), -1);
        due.is("P41 no such PLACE", x.eigen(-1), -1);
        due.row("P41 refused", x, 1, 2, 3);
        SkewRings y = Due.fresh(2, "0,1");
        due.is("P41 of t over 9", y.eigen(0), 278);
        due.row("P41 of t over 9", y, 1, 4, 3, 5);
        SkewRings z = Due.fresh(3, "0,1");
        due.is("P41 of t over 16", z.eigen(0), 65534);
        due.is("P41 of t over 16: all but 0", z.count(6), 15);
    }

    private static void vanishes() {
        SkewRings x = Due.fresh(0);
        due.is("P42 the empty set", x.vanishes(0, 5), 0);
        due.place("P42 the empty set", x, 5, "1");
        due.row("P42 the empty set", x, 0);
        due.is("P42 one", x.vanishes(4, 5), 1);
        due.place("P42 one", x, 5, "2,1");
        due.row("P42 one", x, 4);
        due.is("P42 two", x.vanishes(6, 5), 2);
        due.place("P42 two", x, 5, "1,0,1");
        due.row("P42 two bring the third", x, 14);
        due.is("P42 0 and 2", x.vanishes(5, 5), 2);
        due.place("P42 0 and 2", x, 5, "0,3,1");
        due.row("P42 0 and 2", x, 5);
        due.is("P42 all", x.vanishes(15, 5), 3);
        due.place("P42 all", x, 5, "0,1,0,1");
        due.row("P42 all", x, 15);
        due.is("P42 no such set", x.vanishes(16, 5), -1);
        due.is("P42 no such set", x.vanishes(-1, 5), -1);
        due.is("P42 no such PLACE", x.vanishes(6, 6), -1);
        due.is("P42 no such PLACE", x.vanishes(6, -1), -1);
        due.place("P42 refused", x, 5, "0,1,0,1");
        due.row("P42 refused", x, 15);
        SkewRings y = Due.fresh(2);
        due.is("P42 a class of 9", y.vanishes(278, 5), 2);
        due.place("P42 a class of 9", y, 5, "2,0,1");
        due.row("P42 a class of 9", y, 278);
        due.is("P42 all of 9", y.vanishes(511, 5), 5);
        due.place("P42 all of 9", y, 5, "0,2,0,0,0,1");
        SkewRings z = Due.fresh(3);
        due.is("P42 all of 16", z.vanishes(65535, 5), 5);
        due.place("P42 all of 16", z, 5, "0,1,0,0,0,1");
        due.row("P42 all of 16", z, 65535);
    }
}
