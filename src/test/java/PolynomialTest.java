/** Promises 13 to 31: polynomials in the PLACES. */
public final class PolynomialTest {
    private static final Due due = new Due();

    public static void main(String[] args) {
        degreesAndNumbers();
        sumsAndDifferences();
        scaled();
        products();
        quotients();
        divisionsEverywhere();
        divisors();
        multiples();
        steps();
        crosses();
        mapped();
        monicAndForm();
        sameOnes();
        powers();
        turned();
        cofactors();
        due.finish("PolynomialTest");
    }

    private static void degreesAndNumbers() {
        SkewRings x = Due.fresh(1, "0", "5", "1,0,7", "1,2,3,4,5,6,7,0,1");
        due.is("P13 of 0", x.degree(0), -1);
        due.is("P13 of a number", x.degree(1), 0);
        due.is("P13", x.degree(2), 2);
        due.is("P13", x.degree(3), 8);
        due.is("P13 no such PLACE", x.degree(6), -2);
        due.is("P13 no such PLACE", x.degree(-1), -2);
        int[] want = {1, 2, 3, 4, 5, 6, 7, 0, 1};
        for (int k = 0; k < 9; k++) due.is("P14 number(3, " + k + ")", x.number(3, k), want[k]);
        due.is("P14 above the DEGREE", x.number(2, 8), 0);
        due.is("P14 k 9", x.number(3, 9), -1);
        due.is("P14 k -1", x.number(3, -1), -1);
        due.is("P14 no such PLACE", x.number(6, 0), -1);
        due.is("P14 no such PLACE", x.number(-1, 0), -1);
    }

    /** All calls with three PLACES refuse alike. */
    private interface Call {
        int on(SkewRings x, int i, int j, int k);
    }

    private static void refusesPlaces(String what, int answer, Call call) {
        SkewRings x = Due.fresh(0, "2,1", "3,1", "1,1,1");
        x.roots(0);
        String before = Due.state(x);
        int[][] wrong = {{6, 1, 2}, {-1, 1, 2}, {0, 6, 2}, {0, -1, 2}, {0, 1, 6}, {0, 1, -1}};
        for (int[] w : wrong) due.is(what + " no such PLACE", call.on(x, w[0], w[1], w[2]), answer);
        due.holds(what + " changes nothing", Due.state(x).equals(before));
    }

    private static void sumsAndDifferences() {
        SkewRings x = Due.fresh(2, "1,2,3", "2,2,6", "8,4");
        due.is("P15", x.adds(0, 1, 3), 1);
        due.place("P15 LEADING falls away", x, 3, "0,1");
        due.is("P15", x.adds(0, 2, 0), 2);
        due.place("P15 the PLACE told anew is asked, too", x, 0, "6,3,3");
        due.is("P15", x.adds(2, 2, 2), 1);
        due.place("P15", x, 2, "4,8");
        due.is("P16", x.takes(0, 1, 4), 2);
        due.place("P16", x, 4, "7,4,6");
        due.is("P16", x.takes(2, 0, 5), 2);
        due.place("P16", x, 5, "7,5,6");
        due.is("P16 0", x.takes(5, 5, 5), -1);
        due.place("P16 0", x, 5, "0");
        due.is("P16 PLACES in use", x.count(4), 31);
        SkewRings y = Due.fresh(3, "15,9", "15,9");
        due.is("P15 0", y.adds(0, 1, 0), -1);
        due.place("P15 0", y, 0, "0");
        refusesPlaces("P15", -2, SkewRings::adds);
        refusesPlaces("P16", -2, SkewRings::takes);
    }

    private static void scaled() {
        SkewRings x = Due.fresh(2, "1,3,0,4");
        due.is("P17", x.scales(3, 0, 1), 3);
        due.place("P17", x, 1, "3,4,0,7");
        due.is("P17 by 0", x.scales(0, 0, 1), -1);
        due.place("P17 by 0", x, 1, "0");
        due.is("P17 in place", x.scales(2, 0, 0), 3);
        due.place("P17 in place", x, 0, "2,6,0,8");
        due.is("P17 no such NUMBER", x.scales(9, 0, 1), -2);
        due.is("P17 no such NUMBER", x.scales(-1, 0, 1), -2);
        due.is("P17 no such PLACE", x.scales(1, 6, 1), -2);
        due.is("P17 no such PLACE", x.scales(1, 0, -1), -2);
        due.place("P17 refused", x, 0, "2,6,0,8");
    }

    private static void products() {
        SkewRings x = Due.fresh(0, "2,1", "3,1", "0,1", "2");
        due.is("P18", x.multiplies(0, 1, 4), 2);
        due.place("P18 (2 + t)(3 + t)", x, 4, "1,0,1");
        due.is("P18 t 2", x.multiplies(2, 3, 4), 1);
        due.place("P18 t 2 is MAP(2) t", x, 4, "0,3");
        due.is("P18 2 t", x.multiplies(3, 2, 4), 1);
        due.place("P18 2 t", x, 4, "0,2");
        due.is("P18 by 0", x.multiplies(0, 5, 4), -1);
        due.is("P18 in place", x.multiplies(0, 0, 0), 2);
        due.place("P18 in place", x, 0, "3,1,1");
        SkewRings y = Due.fresh(3, "1,0,0,0,2", "3,0,0,0,0,1", "0,0,0,0,1", "9", "0,0,0,0,0,0,0,0,1");
        due.is("P18 above 8", y.multiplies(0, 1, 5), -3);
        due.is("P18 above 8 in place", y.multiplies(1, 1, 1), -3);
        due.place("P18 above 8", y, 1, "3,0,0,0,0,1");
        due.is("P18 8", y.multiplies(0, 2, 5), 8);
        due.place("P18 8", y, 5, "0,0,0,0,1,0,0,0,2");
        due.is("P18 t^8 9", y.multiplies(4, 3, 5), 8);
        due.place("P18 t^8 9: MAP 8 times", y, 5, "0,0,0,0,0,0,0,0,9");
        due.is("P18 16", y.multiplies(4, 4, 5), -3);
        refusesPlaces("P18", -2, SkewRings::multiplies);
    }

    private static void quotients() {
        SkewRings x = Due.fresh(0, "0,2", "0,1", "0", "1,0,1", "2,1");
        due.is("P19 2 t by t, ahead", x.quotient(0, 1, 0, 5), 0);
        due.place("P19 2 t is 2 times t", x, 5, "2");
        due.is("P19 2 t by t, behind", x.quotient(0, 1, 1, 5), 0);
        due.place("P19 2 t is t times 3", x, 5, "3");
        due.is("P19", x.quotient(3, 4, 0, 5), 1);
        due.place("P19", x, 5, "3,1");
        due.is("P20", x.remainder(3, 4, 0, 5), -1);
        due.is("P20 t by t + 2", x.remainder(1, 4, 0, 5), 0);
        due.place("P20", x, 5, "2");
        due.is("P19 a lesser DEGREE", x.quotient(1, 3, 0, 5), -1);
        due.is("P20 a lesser DEGREE", x.remainder(1, 3, 1, 5), 1);
        due.place("P20 is all of it", x, 5, "0,1");
        due.is("P19 by 0", x.quotient(0, 2, 0, 5), -3);
        due.is("P20 by 0", x.remainder(0, 2, 1, 5), -3);
        due.is("P19 no such SIDE", x.quotient(0, 1, 2, 5), -2);
        due.is("P20 no such SIDE", x.remainder(0, 1, -1, 5), -2);
        due.is("P19 no such SIDE goes ahead of 0", x.quotient(0, 2, 2, 5), -2);
        due.place("P19 refused", x, 5, "0,1");
        for (int side = 0; side < 2; side++) {
            int s = side;
            refusesPlaces("P19", -2, (y, i, j, k) -> y.quotient(i, j, s, k));
            refusesPlaces("P20", -2, (y, i, j, k) -> y.remainder(i, j, s, k));
        }
    }

    /** A is Q B + R, or B Q + R, with R below B: nothing else is so. */
    private static void divisionsEverywhere() {
        String[][] polys = {
            {"2,1,3", "3,2", "1,1,1,1,2", "3", "0,0,1,3", "1,2,3,1,2,3,1,2,3"},
            {"5,1,3", "7,2", "1,6,1,4,2", "3", "0,0,1,3", "1,2,3,4,5,6,7,1,2"},
            {"5,1,3", "7,2", "1,6,1,4,8", "3", "0,0,1,3", "1,2,3,4,5,6,7,8,2"},
            {"5,1,13", "7,12", "1,6,11,4,8", "13", "0,0,10,3", "1,2,13,4,5,6,7,8,12"}
        };
        for (int f = 0; f < 4; f++) {
            for (int i = 0; i < 6; i++) {
                for (int j = 0; j < 6; j++) {
                    for (int side = 0; side < 2; side++) division(f, polys[f], i, j, side);
                }
            }
        }
    }

    private static void division(int f, String[] polys, int i, int j, int side) {
        SkewRings x = Due.fresh(f, polys[i], polys[j]);
        String what = "P19, P20 field " + f + " " + polys[i] + " by " + polys[j] + " side " + side;
        int q = x.quotient(0, 1, side, 2);
        int r = x.remainder(0, 1, side, 3);
        due.is(what + " DEGREE", q, x.degree(0) < x.degree(1) ? -1 : x.degree(0) - x.degree(1));
        due.holds(what + " R below B", r < x.degree(1) && r == x.degree(3));
        due.holds(what, (side == 0 ? x.multiplies(2, 1, 4) : x.multiplies(1, 2, 4)) >= -1);
        x.adds(4, 3, 4);
        due.place(what, x, 4, polys[i]);
    }

    private static void divisors() {
        // (t + 5)(t + 3) and (t + 7)(t + 3) share t + 3 behind alone; turned round, ahead alone.
        SkewRings x = Due.fresh(1, "5,1", "7,1", "3,1");
        x.multiplies(0, 2, 3);
        x.multiplies(1, 2, 4);
        due.is("P21 side 0", x.divisor(3, 4, 0, 5), 1);
        due.place("P21 side 0", x, 5, "3,1");
        due.is("P21 side 1", x.divisor(3, 4, 1, 5), 0);
        due.place("P21 side 1", x, 5, "1");
        x.multiplies(2, 0, 3);
        x.multiplies(2, 1, 4);
        due.is("P21 side 1", x.divisor(3, 4, 1, 5), 1);
        due.place("P21 side 1", x, 5, "3,1");
        SkewRings y = Due.fresh(3, "0,6,0,9", "0", "7", "3,0,2");
        due.is("P21 with 0", y.divisor(0, 1, 0, 5), 3);
        due.is("P21 with 0: LEADING 9 goes ahead", y.number(5, 1), y.times(y.inverse(9), 6));
        due.is("P21 with 0 at side 1", y.divisor(1, 0, 1, 5), 3);
        due.is("P21 with 0: LEADING 9 goes behind, through t^3", y.number(5, 1), y.times(6, y.map(y.inverse(9), -2)));
        due.is("P21 MONIC", y.number(5, 3), 1);
        due.is("P21 of a number and 0", y.divisor(2, 1, 0, 5), 0);
        due.is("P21 of 0 and a number", y.divisor(1, 2, 1, 5), 0);
        due.place("P21 of 0 and a number", y, 5, "1");
        due.is("P21 of a number", y.divisor(2, 0, 0, 5), 0);
        due.place("P21 of a number", y, 5, "1");
        due.is("P21 in place", y.divisor(3, 3, 0, 3), 2);
        due.is("P21 both 0", y.divisor(1, 4, 0, 5), -2);
        due.is("P21 no such SIDE goes ahead", y.divisor(1, 4, 2, 5), -1);
        due.is("P21 no such SIDE", y.divisor(0, 1, -1, 5), -1);
        due.place("P21 refused", y, 5, "1");
        refusesPlaces("P21", -1, (z, i, j, k) -> z.divisor(i, j, 0, k));
    }

    private static void multiples() {
        SkewRings x = Due.fresh(0, "2,1", "3,1", "0", "2", "0,3");
        due.is("P22", x.multiple(0, 1, 0, 5), 2);
        due.place("P22", x, 5, "1,0,1");
        due.is("P22 with itself", x.multiple(0, 0, 0, 5), 1);
        due.place("P22 with itself", x, 5, "2,1");
        due.is("P22 with a number", x.multiple(3, 4, 0, 5), 1);
        due.place("P22 with a number", x, 5, "0,1");
        due.is("P22 with a number", x.multiple(4, 3, 1, 5), 1);
        due.place("P22 with a number: t 2, by t", x, 5, "0,1");
        due.is("P22 one is 0", x.multiple(0, 2, 0, 5), -2);
        due.is("P22 the other is 0", x.multiple(2, 0, 1, 5), -2);
        due.is("P22 both are 0", x.multiple(2, 2, 1, 5), -2);
        due.is("P22 no such SIDE goes ahead", x.multiple(0, 2, 2, 5), -1);
        due.place("P22 refused", x, 5, "0,1");
        refusesPlaces("P22", -1, (z, i, j, k) -> z.multiple(i, j, 1, k));
        for (int side = 0; side < 2; side++) {
            SkewRings y = Due.fresh(3, "3,7,0,0,2", "9,1,11,4", "0,0,0,0,5,0,0,0,3", "1,1,1,0,1", "0,0,0,0,1");
            due.is("P22", y.multiple(0, 1, side, 5), 7);
            due.is("P22 MONIC", y.number(5, 7), 1);
            due.is("P22 the first DIVIDES it", y.remainder(5, 0, side, 4), -1);
            due.is("P22 the second DIVIDES it", y.remainder(5, 1, side, 4), -1);
            due.is("P22 above 8", y.multiple(2, 1, side, 5), -3);
            due.is("P22 above 8: as it was", y.degree(5), 7);
            due.is("P22 16", y.multiple(2, 2, side, 4), 8);
            Due.put(y, 4, "1,0,0,0,0,0,0,0,1");
            due.is("P22 16 or so", y.multiple(2, 4, side, 3), -3);
        }
    }

    private static void steps() {
        SkewRings x = Due.fresh(0, "1,0,1", "2,1", "0,1", "0", "3", "1,0,0,1");
        due.is("P23", x.steps(0, 1, 0), 1);
        due.row("P23", x, -1);
        due.is("P23", x.steps(0, 2, 1), 2);
        due.row("P23", x, 0, -1);
        due.is("P23 the lesser first", x.steps(2, 0, 0), 3);
        due.row("P23 the lesser first", x, 1, 0, -1);
        due.is("P23 by a number", x.steps(5, 4, 1), 1);
        due.row("P23 by a number", x, -1);
        due.is("P23 by 0", x.steps(0, 3, 0), 0);
        due.row("P23 by 0", x);
        due.is("P23 0 by it", x.steps(3, 0, 0), 1);
        due.row("P23 0 by it", x, -1);
        due.is("P23 0 by 0", x.steps(3, 3, 1), 0);
        x.steps(0, 1, 0);
        due.is("P23 no such SIDE", x.steps(0, 1, 2), -1);
        due.is("P23 no such SIDE", x.steps(0, 1, -1), -1);
        due.is("P23 no such PLACE", x.steps(6, 1, 0), -1);
        due.is("P23 no such PLACE", x.steps(0, -1, 0), -1);
        due.row("P23 refused", x, -1);
        SkewRings y = Due.fresh(1, "5,1", "7,1", "3,1");
        y.multiplies(0, 2, 3);
        y.multiplies(1, 2, 4);
        due.is("P23 side 0", y.steps(3, 4, 0), 2);
        due.row("P23 side 0: t + 3 is left", y, 1, -1);
        due.is("P23 side 1", y.steps(3, 4, 1), 3);
        due.row("P23 side 1: 1 is left", y, 1, 0, -1);
    }

    private static void crosses() {
        SkewRings x = Due.fresh(0, "2,1", "0,1", "1,0,1", "2", "0,0,0,0,0,0,0,0,2", "0,0,0,0,0,0,1");
        due.is("P24", x.crosses(1, 3, 0), 1);
        due.place("P24 t 2 less 2 t", x, 0, "0,1");
        due.is("P24", x.crosses(2, 3, 0), -1);
        due.place("P24 t t commutes with 2", x, 0, "0");
        due.is("P24 above 8", x.crosses(4, 1, 0), -3);
        due.place("P24 above 8: as it was", x, 0, "0");
        due.is("P24 what is above 8 falls away", x.crosses(4, 5, 0), -1);
        due.is("P24 with itself", x.crosses(4, 4, 0), -1);
        SkewRings y = Due.fresh(2, "0,3", "1,1");
        due.is("P24 in place", y.crosses(0, 1, 0), 2);
        // 3 t (1 + t) - (1 + t) 3 t = 3 t t - MAP(3) t t
        due.place("P24 in place", y, 0, "0,0,8");
        refusesPlaces("P24", -2, SkewRings::crosses);
    }

    private static void mapped() {
        SkewRings x = Due.fresh(3, "2,0,9,1");
        due.is("P25", x.maps(0, 1, 1), 3);
        due.place("P25", x, 1, "4,0," + x.times(9, 9) + ",1");
        due.is("P25 back", x.maps(1, -1, 1), 3);
        due.place("P25 back", x, 1, "2,0,9,1");
        due.is("P25 8 times", x.maps(0, 8, 0), 3);
        due.place("P25 8 times", x, 0, "2,0,9,1");
        due.is("P25 of 0", x.maps(5, -8, 0), -1);
        due.place("P25 of 0", x, 0, "0");
        due.is("P25 no such n", x.maps(1, 9, 0), -2);
        due.is("P25 no such n", x.maps(1, -9, 0), -2);
        due.is("P25 no such PLACE", x.maps(6, 1, 0), -2);
        due.is("P25 no such PLACE", x.maps(1, 1, -1), -2);
    }

    private static void monicAndForm() {
        SkewRings x = Due.fresh(2, "1,0,3", "0", "7", "0,0,2,1", "1", "2,2");
        due.is("P26", x.monic(0), 3);
        due.place("P26", x, 0, "5,0,1");
        due.is("P26 MONIC", x.monic(0), 1);
        due.is("P26 of 0", x.monic(1), -2);
        due.is("P26 of a number", x.monic(2), 7);
        due.place("P26 of a number", x, 2, "1");
        due.is("P26 no such PLACE", x.monic(6), -1);
        due.is("P26 no such PLACE", x.monic(-1), -1);
        SkewRings y = Due.fresh(3, "5,0,7,9", "0,0,2", "0,3,0,0,1", "2", "1,1", "7");
        due.is("P26 of DEGREE 3", y.monic(0), 9);
        due.place("P26 the inverse goes ahead", y, 0, y.times(5, 2) + ",0," + y.times(7, 2) + ",1");
        due.is("P27 not 0", y.form(0, 1), 3);
        due.is("P27 not 0", y.form(1, 1), 1);
        due.is("P27 not 0", y.form(4, 1), 2);
        due.is("P27 the least k is LEADING's", y.form(1, 2), 2);
        due.is("P27 the least k", y.form(2, 2), 1);
        due.is("P27 the least k of a number", y.form(5, 2), 0);
        due.is("P27 a number is not 1", y.form(3, 3), 0);
        due.is("P27 1 + t is not 1", y.form(4, 3), 0);
        due.is("P27 LEADING", x.form(5, 0), 2);
        due.is("P27 LEADING of 0", x.form(1, 0), 0);
        due.is("P27 not 0", x.form(3, 1), 2);
        due.is("P27 not 0, of 0", x.form(1, 1), 0);
        due.is("P27 the least k", x.form(3, 2), 2);
        due.is("P27 the least k", x.form(0, 2), 0);
        due.is("P27 the least k of 0", x.form(1, 2), -2);
        due.is("P27 is 1", x.form(4, 3), 1);
        due.is("P27 is not 1", x.form(3, 3), 0);
        due.is("P27 is not 1", x.form(5, 3), 0);
        due.is("P27 is not 1", x.form(1, 3), 0);
        due.is("P27 another what", x.form(0, 4), -1);
        due.is("P27 another what", x.form(1, -1), -1);
        due.is("P27 no such PLACE", x.form(6, 0), -1);
        due.is("P27 no such PLACE", x.form(-1, 2), -1);
    }

    private static void sameOnes() {
        SkewRings x = Due.fresh(0, "2,1", "2,1", "3,1", "1,0,1", "0,0,0,0,0,0,0,0,2", "0,1");
        due.is("P28", x.same(0, 1), 1);
        due.row("P28", x, 1);
        due.is("P28", x.same(0, 2), 0);
        due.row("P28 both ways 1 + t t", x, 1);
        due.is("P28", x.same(0, 5), 0);
        due.row("P28 not both ways", x, 0);
        due.is("P28", x.same(4, 5), 0);
        due.row("P28 not both ways, above 8", x, 0);
        due.is("P28", x.same(4, 3), 0);
        due.row("P28 both ways, above 8", x, 1);
        due.is("P28 no such PLACE", x.same(6, 0), -1);
        due.is("P28 no such PLACE", x.same(0, -1), -1);
        due.row("P28 refused", x, 1);
    }

    private static void powers() {
        SkewRings x = Due.fresh(0, "2,1", "0", "3", "0,0,2");
        due.is("P29 0 times", x.power(0, 0, 5), 0);
        due.place("P29 0 times", x, 5, "1");
        due.is("P29 0, 0 times", x.power(1, 0, 5), 0);
        due.place("P29 0, 0 times", x, 5, "1");
        due.is("P29 0, 8 times", x.power(1, 8, 5), -1);
        due.is("P29 twice", x.power(0, 2, 5), 2);
        due.place("P29 twice", x, 5, "3,1,1");
        due.is("P29 8 times", x.power(0, 8, 5), 8);
        due.is("P29 a number 8 times", x.power(2, 8, 5), 0);
        due.place("P29 a number 8 times", x, 5, "2");
        due.is("P29 2 t t 4 times", x.power(3, 4, 5), 8);
        due.place("P29 2 t t 4 times", x, 5, "0,0,0,0,0,0,0,0,2");
        due.is("P29 5 times", x.power(3, 5, 5), -3);
        due.is("P29 9 times", x.power(0, 9, 5), -2);
        due.is("P29 -1 times", x.power(0, -1, 5), -2);
        due.is("P29 no such PLACE", x.power(6, 1, 5), -2);
        due.is("P29 no such PLACE", x.power(0, 1, 6), -2);
        due.place("P29 refused", x, 5, "0,0,0,0,0,0,0,0,2");
        due.is("P29 in place", x.power(0, 1, 0), 1);
        due.place("P29 in place", x, 0, "2,1");
    }

    private static void turned() {
        SkewRings x = Due.fresh(0, "2,1", "0,0,3");
        due.is("P30", x.turned(2, 0, 5), 1);
        due.place("P30 2 of t is 2 times 2 inverse", x, 5, "2,2");
        due.is("P30 t t", x.turned(2, 1, 5), 2);
        due.place("P30 t t passes all", x, 5, "0,0,3");
        due.is("P30 by 1, in place", x.turned(1, 0, 0), 1);
        due.place("P30 by 1", x, 0, "2,1");
        due.is("P30 of 0", x.turned(2, 3, 5), -1);
        due.is("P30 c 0", x.turned(0, 0, 5), -3);
        due.is("P30 no such NUMBER", x.turned(4, 0, 5), -2);
        due.is("P30 no such NUMBER", x.turned(-1, 0, 5), -2);
        due.is("P30 no such PLACE goes ahead of 0", x.turned(0, 6, 5), -2);
        due.is("P30 no such PLACE", x.turned(1, 0, -1), -2);
        SkewRings y = Due.fresh(3, "5,9,0,11,1", "3");
        y.turned(3, 0, 2);
        y.multiplies(0, 1, 3);
        y.scales(y.inverse(3), 3, 3);
        due.place("P30 as a product", y, 2, Due.at(y, 3));
    }

    private static void cofactors() {
        SkewRings x = Due.fresh(0, "2,1", "3,1", "0", "0,3");
        due.is("P31", x.cofactors(0, 1, 4, 5), 0);
        due.place("P31", x, 4, "1");
        due.place("P31", x, 5, "1");
        due.is("P31 with 0", x.cofactors(3, 2, 4, 5), 1);
        due.place("P31 with 0", x, 4, "2");
        due.place("P31 with 0", x, 5, "0");
        due.is("P31 0 with it", x.cofactors(2, 3, 4, 5), 1);
        due.place("P31 0 with it", x, 4, "0");
        due.place("P31 0 with it", x, 5, "2");
        Due.put(x, 4, "3");
        due.is("P31 a number with 0", x.cofactors(4, 2, 4, 5), 0);
        due.place("P31 a number with 0", x, 4, "2");
        due.is("P31 0 with a number", x.cofactors(2, 4, 4, 5), 0);
        due.place("P31 0 with a number", x, 5, "3");
        x.cofactors(2, 3, 4, 5);
        due.is("P31 both 0", x.cofactors(2, 2, 4, 5), -2);
        due.is("P31 both 0 goes ahead", x.cofactors(2, 2, 4, 4), -2);
        due.is("P31 k is l", x.cofactors(0, 1, 4, 4), -3);
        due.is("P31 no such PLACE goes ahead", x.cofactors(2, 2, 6, 6), -1);
        due.is("P31 no such PLACE", x.cofactors(0, 1, 4, 6), -1);
        due.is("P31 no such PLACE", x.cofactors(0, 1, -1, 4), -1);
        due.is("P31 no such PLACE", x.cofactors(6, 1, 4, 5), -1);
        due.is("P31 no such PLACE", x.cofactors(0, -1, 4, 5), -1);
        due.place("P31 refused", x, 5, "2");
        // S A + U B is the DIVISOR at side 0.
        SkewRings y = Due.fresh(3, "3,7,0,1,2", "9,1,11,4", "6,1");
        y.multiplies(0, 2, 0);
        y.multiplies(1, 2, 1);
        due.is("P31", y.cofactors(0, 1, 4, 5), 1);
        due.holds("P31 of DEGREES below those of the other", y.degree(4) < 3 && y.degree(5) < 4);
        y.multiplies(4, 0, 4);
        y.multiplies(5, 1, 5);
        due.is("P31", y.adds(4, 5, 4), 1);
        due.place("P31", y, 4, "6,1");
        due.is("P31 over those asked", y.cofactors(0, 1, 1, 0), 1);
    }
}
