/** The part "Terms": its sentences that name a boundary, each on both sides of it. What each call refuses: EdgeTableTest. */
public final class EdgeTermsTest {
    private static final Due due = new Due();
    private static final int[] Q = {4, 8, 9, 16};
    private static final int[] P = {2, 2, 3, 2};
    private static final int[] M = {2, 3, 2, 4};

    public static void main(String[] args) {
        fields();
        powersOfW();
        mapsBackwards();
        zeroPolynomial();
        degreeEight();
        tPassesNumbers();
        order();
        divisionBounds();
        divisorAndMultiple();
        rootsAndPrimes();
        likeness();
        central();
        asked();
        firstOfSeveral();
        signsOfTheText();
        rowAtFirst();
        lastOf512();
        due.finish("EdgeTermsTest");
    }

    /** "FIELDS 0 .. 3: of q NUMBERS 0 .. q - 1"; "At first FIELD 0". */
    private static void fields() {
        due.is("T1 'At first FIELD 0'", new SkewRings().count(0), 0);
        due.is("T1 '0: q 4': 3 is the last", new SkewRings().plus(3, 0), 3);
        due.is("T1 '0: q 4': 4 is none", new SkewRings().plus(4, 0), -1);
        for (int f = 0; f < 4; f++) {
            SkewRings x = Due.fresh(f);
            due.is("T1 FIELD " + f + ": p to the m is q", power(P[f], M[f]), Q[f]);
            due.is("T1 FIELD " + f + ": q", x.count(1), Q[f]);
            due.is("T1 FIELD " + f + ": p", x.count(2), P[f]);
            due.is("T1 FIELD " + f + ": m", x.count(3), M[f]);
            due.is("T1 NUMBERS begin with 0", x.times(0, 1), 0);
            due.is("T1 NUMBERS end with q - 1", x.times(Q[f] - 1, 1), Q[f] - 1);
            due.is("T1 q is none", x.times(Q[f], 1), -1);
            due.is("T1 -1 is none", x.times(-1, 1), -1);
        }
    }

    private static int power(int a, int n) {
        int v = 1;
        for (int i = 0; i < n; i++) v *= a;
        return v;
    }

    /** "each modulo p"; "w w is w + 1 in FIELDS 0 and 2, w w w in FIELD 1, w w w w in FIELD 3". */
    private static void powersOfW() {
        for (int f = 0; f < 4; f++) {
            SkewRings x = Due.fresh(f);
            int w = P[f];
            int v = 1;
            for (int s = 1; s < M[f]; s++) {
                v = x.times(v, w);
                due.is("T1 FIELD " + f + ": w, " + s + " of them, is a digit alone", v, power(P[f], s));
            }
            due.is("T1 FIELD " + f + ": w, m of them, is w + 1", x.times(v, w), w + 1);
            for (int s = 0; s < M[f]; s++) {
                int unit = power(P[f], s);
                int sum = 0;
                for (int n = 1; n < P[f]; n++) {
                    sum = x.plus(sum, unit);
                    due.is("T1 FIELD " + f + ": below p", sum, n * unit);
                }
                due.is("T1 FIELD " + f + ": p of a digit are 0, and nothing is carried", x.plus(sum, unit), 0);
            }
        }
    }

    /** "MAP k times (k below 0: what MAP brings there, so often)". */
    private static void mapsBackwards() {
        for (int f = 0; f < 4; f++) {
            SkewRings x = Due.fresh(f);
            for (int a = 0; a < Q[f]; a++) {
                int power = 1;
                for (int n = 0; n < P[f]; n++) power = x.times(power, a);
                due.is("T1 FIELD " + f + ": MAP is the p-th power", x.map(a, 1), power);
                due.is("T1 FIELD " + f + ": MAP brings it there", x.map(x.map(a, -1), 1), a);
                due.is("T1 FIELD " + f + ": 0 times", x.map(a, 0), a);
                due.is("T1 FIELD " + f + ": m times", x.map(a, M[f]), a);
                due.is("T1 FIELD " + f + ": m times backwards", x.map(a, -M[f]), a);
                due.is("T1 FIELD " + f + ": m - 1 times is once backwards", x.map(a, M[f] - 1), x.map(a, -1));
            }
        }
    }

    /** "DEGREE: .. (NONE of 0: all are 0)"; "PLACES 0 .. 5 have one each, 0 at first". */
    private static void zeroPolynomial() {
        SkewRings x = new SkewRings();
        for (int k = 0; k < 6; k++) {
            due.is("T1 '0 at first' PLACE " + k, x.degree(k), -1);
            due.is("T1 '0 at first' PLACE " + k, x.number(k, 0), 0);
        }
        due.is("T1 PLACE -1", x.degree(-1), -2);
        due.is("T1 PLACE 6", x.degree(6), -2);
        due.is("T1 NONE of 0", Due.put(x, 0, "0,0,0,0,0,0,0,0,0"), -1);
        due.is("T1 1 is of DEGREE 0", Due.put(x, 0, "1,0,0,0,0,0,0,0,0"), 0);
        due.is("T1 t^8 is of DEGREE 8", Due.put(x, 0, "0,0,0,0,0,0,0,0,1"), 8);
        due.is("T1 LEADING is not 0", x.form(0, 0), 1);
    }

    /** "DEGREE .. at most 8". */
    private static void degreeEight() {
        for (int f = 0; f < 4; f++) {
            Scene.Maker maker = Scene.of(f, "0,0,0,0,0,0,0,1", "2,1", "1,0,1");
            Scene.accepted(due, "T1 DEGREE 8 stands", maker, x -> x.multiplies(0, 1, 3), 8, 1 << 3);
            Scene.refused(due, "T1 DEGREE 9 does not", maker, x -> x.multiplies(0, 2, 3), -3);
        }
    }

    /** "t a is MAP(a) t: so a t^i times b t^j is a MAP^i(b) t^(i + j)", i up to 8: MAP m times changes nothing. */
    private static void tPassesNumbers() {
        for (int f = 0; f < 4; f++) {
            int w = P[f];
            SkewRings x = Due.fresh(f, "0,1", "1", "" + w);
            for (int i = 0; i <= 8; i++) {
                x.multiplies(1, 2, 3);
                due.is("T1 FIELD " + f + ": t^" + i + " w", x.number(3, i), x.map(w, i));
                due.is("T1 FIELD " + f + ": t^" + i + " w is w t^" + i, x.number(3, i) == w ? 1 : 0, i % M[f] == 0 ? 1 : 0);
                if (i < 8) x.multiplies(1, 0, 1);
            }
        }
    }

    /** "ORDER: by DEGREE, then by NUMBERS from LEADING down, the lesser first": shown by the first divisor, factor and WAY. */
    private static void order() {
        // t t + 1 has the MONIC divisors t + 1, t + 2, t + 3 over 4: the least NUMBER comes first.
        SkewRings x = Due.fresh(0, "1,0,1", "1,1,1,1");
        x.divisors(0, 1);
        due.row("T1 ORDER: the lesser a0", x, 1, 1);
        // (t t + 1)(t + 1) has divisors of DEGREE 2: a1 is asked before a0.
        int many = x.divisors(1, 2);
        due.holds("T1 ORDER: there are several", many > 1);
        int first = -1;
        for (int code = 0; first < 0; code++) {
            Due.put(x, 2, code % 4 + "," + code / 4 + ",1");
            if (x.remainder(1, 2, 0, 3) == -1) first = code;
        }
        due.row("T1 ORDER: from LEADING down", x, first % 4, first / 4, 1);
        // t t t + t t + t + 1 ends with t + 1, not with a divisor of DEGREE 2 whose numbers are less.
        x.factors(1);
        due.is("T1 ORDER: by DEGREE first", Due.factorAt(x, x.count(5), 2), Scene.THROWS);
        SkewRings y = Due.fresh(2, "0,0,1", "0,0,2");
        due.is("T1 ORDER: the first WAY is the least NUMBER", y.like(0, 1), 1);
        due.row("T1 ORDER: a NUMBER comes ahead of DEGREE 1", y, 1, 0);
    }

    /** "A by B (not 0)"; "the DEGREE of R less than that of B". */
    private static void divisionBounds() {
        for (int f = 0; f < 4; f++) {
            for (int side = 0; side < 2; side++) {
                int s = side;
                Scene.Maker maker = Scene.of(f, "1,2,3", "3", "0", "2,1,1", "1,1,2,1");
                Scene.refused(due, "T1 by 0", maker, x -> x.quotient(0, 2, s, 5), -3);
                Scene.accepted(due, "T1 by a NUMBER: Q is of A's DEGREE", maker, x -> x.quotient(0, 1, s, 5), 2, 1 << 5);
                Scene.accepted(due, "T1 by a NUMBER: R is 0", maker, x -> x.remainder(0, 1, s, 5), -1, 1 << 5);
                Scene.accepted(due, "T1 of one DEGREE: Q is a NUMBER", maker, x -> x.quotient(0, 3, s, 5), 0, 1 << 5);
                SkewRings x = Scene.accepted(due, "T1 A's DEGREE is less: Q is 0", maker, y -> y.quotient(0, 4, s, 5), -1, 0);
                due.is("T1 A's DEGREE is less: R is A", x.remainder(0, 4, s, 5), 2);
                due.place("T1 A's DEGREE is less: R is A", x, 5, "1,2,3");
            }
        }
    }

    /** "DIVISOR of two (not both 0)"; "MULTIPLE of two (neither 0)": "MONIC" at both SIDES. */
    private static void divisorAndMultiple() {
        for (int f = 0; f < 4; f++) {
            for (int side = 0; side < 2; side++) {
                int s = side;
                Scene.Maker maker = Scene.of(f, "0", "0,2,0,3", "0", "3");
                Scene.refused(due, "T1 DIVISOR: both 0", maker, x -> x.divisor(0, 2, s, 5), -2);
                for (int i = 0; i < 2; i++) {
                    int first = i;
                    SkewRings x = Scene.accepted(due, "T1 DIVISOR: one is 0", maker, y -> y.divisor(first, 1 - first, s, 5), 3, 1 << 5);
                    due.is("T1 DIVISOR is MONIC", x.form(5, 0), 1);
                    due.is("T1 DIVISOR DIVIDES there", x.remainder(1, 5, s, 4), -1);
                    Scene.refused(due, "T1 MULTIPLE: one is 0", maker, y -> y.multiple(first, 1 - first, s, 5), -2);
                }
                Scene.refused(due, "T1 MULTIPLE: both 0", maker, x -> x.multiple(0, 2, s, 5), -2);
                SkewRings x = Scene.accepted(due, "T1 MULTIPLE with a NUMBER", maker, y -> y.multiple(3, 1, s, 5), 3, 1 << 5);
                due.is("T1 MULTIPLE is MONIC", x.form(5, 0), 1);
                due.is("T1 MULTIPLE: DIVIDED there", x.remainder(5, 1, s, 4), -1);
            }
        }
    }

    /** "ROOT: a NUMBER with VALUE 0"; "PRIME: of DEGREE 1 or more .. of a DEGREE from 1 to less than its own". */
    private static void rootsAndPrimes() {
        for (int f = 0; f < 4; f++) {
            SkewRings x = Due.fresh(f, "0", "2", "0,1", "2,3", "0,0,1");
            due.is("T1 ROOTS of 0: all", x.roots(0), (1 << Q[f]) - 1);
            due.is("T1 ROOTS of a NUMBER: none", x.roots(1), 0);
            due.is("T1 ROOTS of t: 0", x.roots(2), 1);
            due.is("T1 PRIME of DEGREE 0", x.prime(1), 0);
            due.is("T1 PRIME of DEGREE 1", x.prime(2), 1);
            due.is("T1 PRIME of DEGREE 1, not MONIC", x.prime(3), 1);
            due.is("T1 PRIME of DEGREE 2 with a ROOT", x.prime(4), 0);
        }
        // No divisor of DEGREE 1, one of DEGREE 2: what is less than its own goes up to n - 1.
        SkewRings y = Due.fresh(0, "1,0,1,0,1", "1,1,0,1");
        due.is("T1 PRIME: no ROOT", y.roots(0), 0);
        due.holds("T1 PRIME: one of DEGREE 2 DIVIDES", y.divisors(0, 2) > 0);
        due.is("T1 PRIME: so it is none", y.prime(0), 0);
        due.is("T1 PRIME of DEGREE 3", y.prime(1), 1);
        due.is("T1 PRIME: itself does not count", y.divisors(1, 3), 1);
    }

    /** "of one DEGREE n from 1 on, if there is a U of a DEGREE below n". */
    private static void likeness() {
        for (int f = 0; f < 4; f++) {
            Scene.Maker maker = Scene.of(f, "2,1", "3", "1,0,1", "0,1", "2");
            SkewRings x = Scene.accepted(due, "T1 LIKE: DEGREE 1", maker, y -> y.like(0, 0), 1, Scene.ROW);
            due.row("T1 LIKE: U is a NUMBER", x, 1);
            Scene.refused(due, "T1 LIKE: DEGREE 0", maker, y -> y.like(1, 4), -4);
            Scene.refused(due, "T1 LIKE: DEGREES 1 and 2", maker, y -> y.like(0, 2), -4);
            SkewRings z = Scene.accepted(due, "T1 LIKE: t and t + w", maker, y -> y.like(0, 3), 0, Scene.ROW);
            due.row("T1 LIKE: no WAY", z);
        }
    }

    /** "its NUMBERS are PLAIN (0 .. p - 1), and 0 but for t^0, t^m, t^2m, .. ": of any DEGREE. */
    private static void central() {
        for (int f = 0; f < 4; f++) {
            SkewRings x = new SkewRings();
            x.field(f);
            for (int k = 0; k <= 8; k++) {
                due.is("T1 FIELD " + f + ": t^" + k, central(x, k, 1), k % M[f] == 0 ? 1 : 0);
                due.is("T1 FIELD " + f + ": p - 1 times t^" + k, central(x, k, P[f] - 1), k % M[f] == 0 ? 1 : 0);
                due.is("T1 FIELD " + f + ": p times t^" + k, central(x, k, P[f]), 0);
                due.is("T1 FIELD " + f + ": q - 1 times t^" + k, central(x, k, Q[f] - 1), 0);
            }
        }
    }

    private static int central(SkewRings x, int k, int number) {
        StringBuilder s = new StringBuilder();
        for (int i = 0; i < k; i++) s.append("0,");
        Due.put(x, 0, s.append(number).toString());
        return x.central(0);
    }

    private interface Asked {
        int of(SkewRings x, int place);
    }

    /** "are asked of DEGREES 4 at most: -2 of 0, -3 above that. bound() .. of any: -2 of 0. central() .. of 0, too (1)". */
    private static void asked() {
        asked("divisors(.., 1)", (x, i) -> x.divisors(i, 1));
        asked("divisors(.., 2)", (x, i) -> x.divisors(i, 2));
        asked("divisors(.., 3)", (x, i) -> x.divisors(i, 3));
        asked("prime", SkewRings::prime);
        asked("factors", SkewRings::factors);
        asked("ways", SkewRings::ways);
        asked("part", (x, i) -> x.part(i, 5));
        asked("like with itself", (x, i) -> x.like(i, i));
        for (int f = 0; f < 4; f++) {
            SkewRings x = Due.fresh(f, "0", "1,1,0,0,1,1", "1,1,0,0,1,1,0,0,1");
            due.is("T1 bound() of 0", x.bound(0), -2);
            due.holds("T1 bound() of DEGREE 5", x.bound(1) >= 2);
            due.holds("T1 bound() of DEGREE 8", x.bound(2) >= 2);
            due.is("T1 central() of 0", x.central(0), 1);
            due.is("T1 central() of DEGREE 5", x.central(1), 0);
            due.is("T1 central() of DEGREE 8", x.central(2), 0);
        }
    }

    private static void asked(String name, Asked call) {
        for (int f = 0; f < 4; f++) {
            Scene.Maker maker = Scene.of(f, "0", "1,1,1,0,1", "1,1,1,0,1,1", "0,0,0,0,0,0,0,0,1", "2,1");
            SkewRings x = maker.make();
            due.holds("T1 " + name + " of DEGREE 4", call.of(x, 1) >= 0);
            Scene.refused(due, "T1 " + name + " of 0", maker, y -> call.of(y, 0), -2);
            Scene.refused(due, "T1 " + name + " of DEGREE 5", maker, y -> call.of(y, 2), -3);
            Scene.refused(due, "T1 " + name + " of DEGREE 8", maker, y -> call.of(y, 3), -3);
        }
    }

    /** "Of several answers below 0 that fit: -21 - p comes first, then NONE, then the others as they are told." */
    private static void firstOfSeveral() {
        Scene.Maker maker = Scene.of(0, "0", "0,0,0,0,0,1", "3", "2,1", "0,0,0,0,0,0,0,0,1", "1,0,1");
        Scene.refused(due, "T2 quotient(): no SIDE ahead of by 0", maker, x -> x.quotient(3, 0, 2, 5), -2);
        Scene.refused(due, "T2 quotient(): no PLACE ahead of by 0", maker, x -> x.quotient(3, 0, 0, 6), -2);
        Scene.refused(due, "T2 remainder(): no SIDE ahead of by 0", maker, x -> x.remainder(3, 0, -1, 5), -2);
        Scene.refused(due, "T2 remainder(): no PLACE ahead of by 0", maker, x -> x.remainder(-1, 0, 1, 5), -2);
        Scene.refused(due, "T2 multiplies(): no PLACE ahead of above 8", maker, x -> x.multiplies(4, 4, 6), -2);
        Scene.refused(due, "T2 crosses(): no PLACE ahead of above 8", maker, x -> x.crosses(4, 1, 6), -2);
        Scene.refused(due, "T2 power(): no PLACE ahead of above 8", maker, x -> x.power(4, 2, 6), -2);
        Scene.refused(due, "T2 power(): no n ahead of above 8", maker, x -> x.power(4, 9, 5), -2);
        Scene.refused(due, "T2 turned(): no PLACE ahead of 0", maker, x -> x.turned(0, 6, 5), -2);
        Scene.refused(due, "T2 turned(): no PLACE ahead of 0", maker, x -> x.turned(0, 3, 6), -2);
        Scene.refused(due, "T2 divisor(): no SIDE ahead of both 0", maker, x -> x.divisor(0, 0, 2, 5), -1);
        Scene.refused(due, "T2 divisor(): no PLACE ahead of both 0", maker, x -> x.divisor(0, 0, 1, 6), -1);
        Scene.refused(due, "T2 multiple(): no SIDE ahead of 0", maker, x -> x.multiple(0, 3, 2, 5), -1);
        Scene.refused(due, "T2 multiple(): no PLACE ahead of 0", maker, x -> x.multiple(3, 0, 1, -1), -1);
        Scene.refused(due, "T2 multiple(): no PLACE ahead of above 8", maker, x -> x.multiple(1, 5, 0, 6), -1);
        Scene.refused(due, "T2 cofactors(): no PLACE ahead of both 0", maker, x -> x.cofactors(0, 0, 6, 4), -1);
        Scene.refused(due, "T2 cofactors(): no PLACE ahead of k and l one", maker, x -> x.cofactors(3, 5, 6, 6), -1);
        Scene.refused(due, "T2 cofactors(): both 0 ahead of k and l one", maker, x -> x.cofactors(0, 0, 4, 4), -2);
        Scene.refused(due, "T2 form(): no PLACE and another what", maker, x -> x.form(6, 4), -1);
        Scene.refused(due, "T2 form(): another what of 0", maker, x -> x.form(0, 4), -1);
        Scene.refused(due, "T2 vanishes(): no set and no PLACE", maker, x -> x.vanishes(16, 6), -1);
        Scene.refused(due, "T2 divisors(): another d ahead of 0", maker, x -> x.divisors(0, 4), -1);
        Scene.refused(due, "T2 divisors(): another d ahead of above 4", maker, x -> x.divisors(4, 0), -1);
        Scene.refused(due, "T2 part(): no PLACE ahead of 0", maker, x -> x.part(0, 6), -1);
        Scene.refused(due, "T2 part(): no PLACE ahead of above 4", maker, x -> x.part(4, -1), -1);
        likeRefusals(maker);
        Scene.Maker fits = Scene.told(0, "1:2,2:1,3:2", "2,1");
        Scene.refusedReading(due, "T2 fits(): no PLACE ahead of none has", fits, x -> x.fits(6), -100);
        Scene.refusedReading(due, "T2 fits(): none has", fits, x -> x.fits(5), -3);
        Scene.refusedReading(due, "T2 fits(): the sign ahead of no PLACE", Scene.told(0, "1:2,2:1,3:2,"), x -> x.fits(6), -33);
        Scene.refusedReading(due, "T2 tells(): the sign ahead of no PLACE", Scene.told(0, "1,2,"), x -> x.tells(6), -25);
    }

    private static void likeRefusals(Scene.Maker maker) {
        Scene.refused(due, "T2 like(): no PLACE ahead of 0", maker, x -> x.like(0, 6), -1);
        Scene.refused(due, "T2 like(): no PLACE ahead of above 4", maker, x -> x.like(-1, 4), -1);
        Scene.refused(due, "T2 like(): no PLACE ahead of DEGREE 0", maker, x -> x.like(2, 6), -1);
        Scene.refused(due, "T2 like(): 0 ahead of above 4", maker, x -> x.like(4, 0), -2);
        Scene.refused(due, "T2 like(): 0 ahead of above 4", maker, x -> x.like(0, 4), -2);
        Scene.refused(due, "T2 like(): 0 ahead of unlike DEGREES", maker, x -> x.like(3, 0), -2);
        Scene.refused(due, "T2 like(): 0 and a NUMBER", maker, x -> x.like(2, 0), -2);
        Scene.refused(due, "T2 like(): above 4 ahead of unlike DEGREES", maker, x -> x.like(1, 4), -3);
        Scene.refused(due, "T2 like(): above 4 ahead of DEGREE 0", maker, x -> x.like(2, 1), -3);
        Scene.refused(due, "T2 like(): above 4 ahead of unlike DEGREES", maker, x -> x.like(1, 3), -3);
        Scene.refused(due, "T2 like(): -4 is asked last", maker, x -> x.like(3, 5), -4);
        Scene.refused(due, "T2 like(): -4 of NUMBERS", maker, x -> x.like(2, 2), -4);
    }

    /** "p is the number of its signs, if it ends too early"; signs that no text can have. */
    private static void signsOfTheText() {
        String[] early = {"", "1,", "1,2,", "01,", "1,1,1,1,1,1,1,1,"};
        for (String s : early) {
            Scene.refusedReading(due, "T2 '" + s + "' ends too early", Scene.told(0, s, "2,1"), x -> x.tells(0), -21 - s.length());
        }
        String[] couples = {"", "1", "1:", "1:2,", "1:2,2", "1:2,2:", "01", "1:2,03:"};
        for (String s : couples) {
            Scene.refusedReading(due, "T2 couples '" + s + "' end too early", Scene.told(0, s, "2,1"), x -> x.fits(0), -21 - s.length());
        }
        for (int c : new int[] {0, 9, 10, ' ', '/', ':', ';', 'a', 127, 128, 176, 177, 255}) {
            char sign = (char) c;
            for (int n = 0; n < 3; n++) {
                String s = "1,2".substring(0, n) + sign + "1,2".substring(n);
                Scene.refusedReading(due, "T2 sign " + c + " at " + n, Scene.told(0, s, "2,1"), x -> x.tells(0), -21 - n);
            }
            String t = "1:2" + sign;
            Scene.refusedReading(due, "T2 sign " + c + " behind a couple", Scene.told(0, t, "2,1"), x -> x.fits(0), -24);
        }
    }

    /** "ROW of numbers: .. at first it has none". */
    private static void rowAtFirst() {
        SkewRings x = new SkewRings();
        due.row("T2 'at first it has none'", x);
        x.plus(1, 1);
        x.degree(0);
        x.prime(0);
        x.roots(6);
        due.row("T2 calls that do not tell of it, or are refused", x);
        due.is("T2 a call that says so", x.basis(0), 0);
        due.row("T2 a call that says so", x, 0);
    }

    /** "An object is used for at most 512 calls": the last of these answers as the first would. */
    private static void lastOf512() {
        for (int f = 0; f < 4; f++) {
            SkewRings x = Scene.of(f, "1,0,1", "2,1", "0,0,0,0,1", "1,1,0,1,1").make();
            int made = 120;
            x.end(0);
            for (; made < 504; made += 12) {
                x.eigen(1); x.bound(3); x.factors(3); x.like(2, 2); x.commuting(0); x.ways(2);
                x.steps(3, 1, 1); x.cofactors(3, 1, 4, 5); x.vanishes(15, 5); x.divisors(2, 2); x.sign(0x312C3200); x.end(0);
            }
            SkewRings twin = Scene.of(f, "1,0,1", "2,1", "0,0,0,0,1", "1,1,0,1,1").make();
            due.is("512 calls, FIELD " + f + ": eigen()", x.eigen(0), twin.eigen(0));
            due.is("512 calls, FIELD " + f + ": the ROW", x.row(0), twin.row(0));
            due.is("512 calls, FIELD " + f + ": like()", x.like(0, 0), 1);
            due.is("512 calls, FIELD " + f + ": factors()", x.factors(0), twin.factors(0));
            due.is("512 calls, FIELD " + f + ": factor()", x.factor(1, 0), twin.factor(1, 0));
            due.is("512 calls, FIELD " + f + ": ways()", x.ways(0), twin.ways(0));
        }
    }
}
