/** Promises 55 and 56: count() and row(), and what refused calls leave as it is. */
public final class StateTest {
    private static final Due due = new Due();

    public static void main(String[] args) {
        counts();
        rows();
        askingChangesOnlyTheRow();
        anyArgumentIsAnswered();
        due.finish("StateTest");
    }

    private static void counts() {
        SkewRings x = Due.fresh(2, "2,1", "0", "5", "0,0,1");
        Due.text(x, "12345");
        x.factors(3);
        int[] want = {2, 9, 3, 2, 1 | 4 | 8, 2, 3, 5};
        for (int what = 0; what < want.length; what++) due.is("P55 count(" + what + ")", x.count(what), want[what]);
        due.is("P55 another what", x.count(8), -1);
        due.is("P55 another what", x.count(-1), -1);
        due.is("P55 another what", x.count(Integer.MIN_VALUE), -1);
        x.takes(0, 0, 0);
        due.is("P55 PLACES", x.count(4), 4 | 8);
        x.adds(2, 2, 5);
        due.is("P55 PLACES", x.count(4), 4 | 8 | 32);
    }

    private static void rows() {
        SkewRings x = new SkewRings();
        due.row("P56 at first none", x);
        x.classes();
        due.row("P56", x, 0, 1);
        due.is("P56 row(MAX)", Due.rowAt(x, Integer.MAX_VALUE), Long.MIN_VALUE);
        due.is("P56 row(MIN)", Due.rowAt(x, Integer.MIN_VALUE), Long.MIN_VALUE);
        x.steps(0, 0, 0);
        due.row("P56 told anew, shorter", x);
    }

    private static void askingChangesOnlyTheRow() {
        SkewRings x = Due.fresh(0, "2,1", "1,0,1", "3", "0,0,0,1", "1,1");
        Due.text(x, "1,");
        String before = places(x);
        for (int i = 0; i < 6; i++) {
            x.degree(i); x.number(i, 0); x.form(i, 1); x.same(i, 0); x.steps(i, 1, 1); x.value(i, 2); x.roots(i);
            x.does(i, 1); x.kernel(i); x.solves(i, 1); x.reaches(i); x.basis(i); x.shares(i, 1); x.eigen(i);
            x.divisors(i, 1); x.prime(i); x.ways(i); x.likes(i); x.like(i, 0); x.commuting(i); x.central(i); x.bound(i);
        }
        x.plus(1, 2); x.times(2, 2); x.inverse(2); x.map(2, 1); x.norm(2, 2); x.conjugates(2); x.classes(); x.primes(2);
        due.holds("P1 calls that ask change nothing else", places(x).equals(before));
        due.is("P10 nor THE TEXT", x.count(7), 2);
    }

    private static String places(SkewRings x) {
        StringBuilder s = new StringBuilder().append(x.count(0)).append(' ').append(x.count(5));
        for (int i = 0; i < 6; i++) s.append(' ').append(Due.at(x, i));
        return s.toString();
    }

    /** No argument makes the machine throw: factor() and row() alone throw, and only what they say. */
    private static void anyArgumentIsAnswered() {
        int[] odd = {Integer.MIN_VALUE, -1000, -9, -1, 0, 1, 2, 3, 4, 5, 6, 8, 9, 16, 40, 300, 65535, 65536, Integer.MAX_VALUE};
        for (int f = 0; f < 4; f++) {
            for (int a : odd) {
                for (int b : odd) anyArguments(f, a, b);
            }
        }
        due.holds("no call threw", true);
    }

    private static void anyArguments(int f, int a, int b) {
        SkewRings x = Due.fresh(f, "2,1", "1,2,3", "0", "1,0,0,1,2", "3", "1,1,1,1,1,1,1,1,1");
        x.plus(a, b); x.times(a, b); x.inverse(a); x.map(a, b); x.norm(a, b); x.conjugates(a);
        x.sign(a); x.end(b); x.tells(a); x.sign(b); x.end(a); x.fits(b); x.degree(a); x.number(a, b);
        for (int c = -1; c < 7; c++) {
            x.adds(a, b, c); x.takes(a, b, c); x.scales(a, b, c); x.multiplies(a, b, c); x.quotient(a, b, 1, c);
            x.remainder(a, b, 0, c); x.divisor(a, b, 1, c); x.multiple(a, b, 0, c); x.crosses(a, b, c); x.maps(a, b, c);
            x.power(a, b, c); x.turned(a, b, c); x.cofactors(a, b, c, 5); x.cofactors(c, 0, a, b);
        }
        x.quotient(0, 1, a, b); x.divisor(0, 1, a, b); x.multiple(0, 1, a, b); x.remainder(0, 1, a, b);
        x.steps(a, b, 0); x.steps(0, a, b); x.monic(a); x.form(a, b); x.same(a, b); x.value(a, b); x.roots(a);
        x.does(a, b); x.kernel(a); x.solves(a, b); x.reaches(a); x.basis(a); x.shares(a, b); x.eigen(a); x.vanishes(a, b);
        x.divisors(a, b); x.prime(a); x.factors(a); Due.factorAt(x, a, b); x.ways(a); x.likes(a); x.like(a, b);
        x.commuting(a); x.central(a); x.bound(a); x.part(a, b); x.primes(a); x.count(a); Due.rowAt(x, a); x.field(a);
    }
}
