/** Promises 1 to 9: a new object, and the numbers of the fields. */
public final class FieldTest {
    /** w to the 0, 1, 2, .. in each field, by hand. */
    private static final int[][] POWERS = {
        {1, 2, 3},
        {1, 2, 4, 3, 6, 7, 5},
        {1, 3, 4, 7, 2, 6, 8, 5},
        {1, 2, 4, 8, 3, 6, 12, 11, 5, 10, 7, 14, 15, 13, 9}
    };
    private static final int[] P = {2, 2, 3, 2};
    private static final int[] M = {2, 3, 2, 4};
    private static final Due due = new Due();

    public static void main(String[] args) {
        newObject();
        fields();
        for (int f = 0; f < 4; f++) {
            sums(f);
            products(f);
            maps(f);
            norms(f);
            conjugates(f);
        }
        classes();
        due.finish("FieldTest");
    }

    private static void newObject() {
        SkewRings x = new SkewRings();
        int[] want = {0, 4, 2, 2, 0, 0, 0, 0};
        for (int what = 0; what < want.length; what++) due.is("P1 count(" + what + ")", x.count(what), want[what]);
        for (int i = 0; i < 6; i++) due.is("P1 degree(" + i + ")", x.degree(i), SkewRings.NONE);
        due.row("P1", x);
        due.is("P1 factor(1, 0) throws", Due.factorAt(x, 1, 0), Long.MIN_VALUE);
        due.is("P1 NONE", SkewRings.NONE, -1);
    }

    private static void fields() {
        SkewRings x = Due.fresh(0, "2,1", "0,3", "1", "2", "3", "0,0,1");
        x.factors(0);
        Due.text(x, "1,");
        String before = Due.state(x);
        due.is("P2 field(0) again", x.field(0), -2);
        due.is("P2 field(4)", x.field(4), -1);
        due.is("P2 field(-1)", x.field(-1), -1);
        due.holds("P2 nothing is changed", Due.state(x).equals(before));
        int[] order = {3, 1, 2, 0, 2, 3, 0};
        for (int f : order) {
            int q = POWERS[f].length + 1;
            due.is("P2 field(" + f + ")", x.field(f), q);
            due.is("P2 FIELD", x.count(0), f);
            due.is("P2 q", x.count(1), q);
            due.is("P2 p", x.count(2), P[f]);
            due.is("P2 m", x.count(3), M[f]);
            due.is("P2 all PLACES are 0", x.count(4), 0);
            due.is("P2 no FACTORS", x.count(5), 0);
            due.is("P2 factor(1, 0) throws", Due.factorAt(x, 1, 0), Long.MIN_VALUE);
            due.is("P2 field again", x.field(f), -2);
        }
        due.row("P2 the ROW stays", x, 1, 1);
        due.is("P2 THE TEXT stays", x.count(7), 2);
    }

    private static void sums(int f) {
        SkewRings x = Due.fresh(f);
        int q = POWERS[f].length + 1;
        for (int a = 0; a < q; a++) {
            for (int b = 0; b < q; b++) {
                int want = f == 2 ? (a % 3 + b % 3) % 3 + (a / 3 + b / 3) % 3 * 3 : a ^ b;
                due.is("P3 field " + f + " plus(" + a + ", " + b + ")", x.plus(a, b), want);
            }
        }
        due.is("P3 plus(-1, 0)", x.plus(-1, 0), -1);
        due.is("P3 plus(0, -1)", x.plus(0, -1), -1);
        due.is("P3 plus(q, 0)", x.plus(q, 0), -1);
        due.is("P3 plus(0, q)", x.plus(0, q), -1);
    }

    private static void products(int f) {
        SkewRings x = Due.fresh(f);
        int[] power = POWERS[f];
        int n = power.length;
        for (int i = 0; i < n; i++) {
            for (int j = 0; j < n; j++) {
                due.is("P4 field " + f + " times(" + power[i] + ", " + power[j] + ")", x.times(power[i], power[j]), power[(i + j) % n]);
            }
            due.is("P4 by 0", x.times(power[i], 0), 0);
            due.is("P4 0 by", x.times(0, power[i]), 0);
            due.is("P5 field " + f + " inverse(" + power[i] + ")", x.inverse(power[i]), power[(n - i) % n]);
        }
        due.is("P4 times(-1, 1)", x.times(-1, 1), -1);
        due.is("P4 times(1, q)", x.times(1, n + 1), -1);
        due.is("P5 inverse(0)", x.inverse(0), -2);
        due.is("P5 inverse(-1)", x.inverse(-1), -1);
        due.is("P5 inverse(q)", x.inverse(n + 1), -1);
    }

    private static void maps(int f) {
        SkewRings x = Due.fresh(f);
        int[] power = POWERS[f];
        int n = power.length;
        for (int i = 0; i < n; i++) {
            for (int k = -8; k <= 8; k++) {
                int e = i;
                for (int h = 0; h < Math.floorMod(k, M[f]); h++) e = e * P[f] % n;
                due.is("P6 field " + f + " map(" + power[i] + ", " + k + ")", x.map(power[i], k), power[e]);
            }
        }
        due.is("P6 map(0, 3)", x.map(0, 3), 0);
        due.is("P6 map(1, 9)", x.map(1, 9), -1);
        due.is("P6 map(1, -9)", x.map(1, -9), -1);
        due.is("P6 map(-1, 0)", x.map(-1, 0), -1);
        due.is("P6 map(q, 0)", x.map(n + 1, 0), -1);
    }

    private static void norms(int f) {
        SkewRings x = Due.fresh(f);
        int[] power = POWERS[f];
        int n = power.length;
        for (int i = 0; i < n; i++) {
            int e = 0;
            int step = i;
            for (int k = 0; k <= 8; k++) {
                due.is("P7 field " + f + " norm(" + power[i] + ", " + k + ")", x.norm(power[i], k), power[e % n]);
                e += step;
                step = step * P[f] % n;
            }
        }
        due.is("P7 norm(0, 0)", x.norm(0, 0), 1);
        due.is("P7 norm(0, 1)", x.norm(0, 1), 0);
        due.is("P7 norm(1, 9)", x.norm(1, 9), -1);
        due.is("P7 norm(1, -1)", x.norm(1, -1), -1);
        due.is("P7 norm(-1, 0)", x.norm(-1, 0), -1);
        due.is("P7 norm(q, 0)", x.norm(n + 1, 0), -1);
    }

    /** c to the p - 1 beside a: all but 0 if p is 2, every other power if p is 3. */
    private static void conjugates(int f) {
        SkewRings x = Due.fresh(f);
        int[] power = POWERS[f];
        int n = power.length;
        for (int i = 0; i < n; i++) {
            int bits = 0;
            for (int k = 0; k < n; k++) bits |= 1 << power[(i + (P[f] - 1) * k) % n];
            due.is("P8 field " + f + " conjugates(" + power[i] + ")", x.conjugates(power[i]), bits);
            due.row("P8", x, f == 2 ? 4 : n);
        }
        due.is("P8 conjugates(-1)", x.conjugates(-1), -1);
        due.is("P8 conjugates(q)", x.conjugates(n + 1), -1);
        due.row("P8 the ROW stays", x, f == 2 ? 4 : n);
        due.is("P8 conjugates(0)", x.conjugates(0), 1);
        due.row("P8 of 0", x, 1);
    }

    private static void classes() {
        for (int f = 0; f < 4; f++) {
            SkewRings x = Due.fresh(f);
            x.shares(0, 1);
            due.is("P9 field " + f, x.classes(), f == 2 ? 3 : 2);
            if (f == 2) due.row("P9", x, 0, 1, 3); else due.row("P9", x, 0, 1);
        }
    }
}
