import java.util.NoSuchElementException;

/** Polynomials over four small fields, in which t a is MAP(a) t. */
public final class SkewRings {
    public static final int NONE = -1;

    private static final int PLACES = 6;
    private static final int MOST_DEGREE = 8;
    /** The greatest degree that the calls on divisors and factors are asked of. */
    private static final int MOST_ASKED = 4;
    private static final int MOST_TURNS = 8;
    private static final int MOST_REACH = 300;
    private static final int MOST_TOLD = 40;
    private static final int FAULT = -21;

    private final Field field = new Field();
    private final Ring ring = new Ring(field);
    private final Euclid euclid = new Euclid(ring);
    private final Values values = new Values(field, ring);
    private final Divisors divisors = new Divisors(field, ring);
    private final Span span = new Span(field);
    private final Likeness likeness = new Likeness(field, ring, span);
    private final Centre centre = new Centre(field, ring, span);
    private final Poly[] places = new Poly[PLACES];
    private final Text text = new Text();
    private final long[] told = new long[MOST_TOLD];
    private int toldCount;
    private final Poly answer = new Poly();
    private final Poly spare = new Poly();

    public SkewRings() {
        field.become(0);
        for (int i = 0; i < places.length; i++) {
            places[i] = new Poly();
        }
    }

    // ---- the field

    public int field(int f) {
        if (!Field.isKind(f)) {
            return NONE;
        }
        if (f == field.kind) {
            return -2;
        }
        field.become(f);
        divisors.forget();
        for (int i = 0; i < places.length; i++) {
            Poly a = placeAt(i);
            if (a != null) {
                a.clear();
            }
        }
        return field.q;
    }

    public int plus(int a, int b) {
        return field.has(a) && field.has(b) ? field.sum(a, b) : NONE;
    }

    public int times(int a, int b) {
        return field.has(a) && field.has(b) ? field.product(a, b) : NONE;
    }

    public int inverse(int a) {
        if (!field.has(a)) {
            return NONE;
        }
        return a == 0 ? -2 : field.inverted(a);
    }

    public int map(int a, int k) {
        return field.has(a) && isTurns(k) ? field.image(a, k) : NONE;
    }

    public int norm(int a, int i) {
        return field.has(a) && i >= 0 && i <= MOST_TURNS ? field.chain(a, i) : NONE;
    }

    public int conjugates(int a) {
        if (!field.has(a)) {
            return NONE;
        }
        int bits = field.conjugatesOf(a);
        startRow();
        tell(Integer.bitCount(bits));
        return bits;
    }

    public int classes() {
        int seen = 0;
        int many = 0;
        startRow();
        for (int a = 0; a < field.q; a++) {
            if ((seen >> a & 1) == 0) {
                seen |= field.conjugatesOf(a);
                tell(a);
                many++;
            }
        }
        return many;
    }

    // ---- polynomials

    public int sign(int v) {
        return text.append(v) ? text.length : NONE;
    }

    public boolean end(int n) {
        return text.cut(n);
    }

    public int tells(int place) {
        int fault = text.readNumbers(field.q, answer);
        text.clear();
        if (fault >= 0) {
            return FAULT - fault;
        }
        Poly a = placeAt(place);
        if (a == null) {
            return -100;
        }
        a.copy(answer);
        return a.top;
    }

    public int degree(int place) {
        Poly a = placeAt(place);
        return a == null ? -2 : a.top;
    }

    public int number(int place, int k) {
        Poly a = placeAt(place);
        return a == null || k < 0 || k > MOST_DEGREE ? NONE : a.at(k);
    }

    public int adds(int i, int j, int k) {
        Poly a = placeAt(i);
        Poly b = placeAt(j);
        Poly c = placeAt(k);
        if (a == null || b == null || c == null) {
            return -2;
        }
        ring.sum(a, b, c);
        return c.top;
    }

    public int takes(int i, int j, int k) {
        Poly a = placeAt(i);
        Poly b = placeAt(j);
        Poly c = placeAt(k);
        if (a == null || b == null || c == null) {
            return -2;
        }
        ring.difference(a, b, c);
        return c.top;
    }

    public int scales(int a, int i, int k) {
        Poly b = placeAt(i);
        Poly c = placeAt(k);
        if (b == null || c == null || !field.has(a)) {
            return -2;
        }
        ring.scaled(a, b, c);
        return c.top;
    }

    public int multiplies(int i, int j, int k) {
        Poly a = placeAt(i);
        Poly b = placeAt(j);
        Poly c = placeAt(k);
        if (a == null || b == null || c == null) {
            return -2;
        }
        ring.product(a, b, answer);
        return keep(answer, c);
    }

    public int quotient(int i, int j, int side, int k) {
        return divided(i, j, side, k, true);
    }

    public int remainder(int i, int j, int side, int k) {
        return divided(i, j, side, k, false);
    }

    public int divisor(int i, int j, int side, int k) {
        Poly a = placeAt(i);
        Poly b = placeAt(j);
        Poly c = placeAt(k);
        if (a == null || b == null || c == null || !isSide(side)) {
            return NONE;
        }
        if (a.top < 0 && b.top < 0) {
            return -2;
        }
        euclid.run(a, b, side);
        euclid.divisorTo(side, c);
        return c.top;
    }

    public int multiple(int i, int j, int side, int k) {
        Poly a = placeAt(i);
        Poly b = placeAt(j);
        Poly c = placeAt(k);
        if (a == null || b == null || c == null || !isSide(side)) {
            return NONE;
        }
        if (a.top < 0 || b.top < 0) {
            return -2;
        }
        euclid.run(a, b, side);
        euclid.multipleTo(a, side, answer);
        return keep(answer, c);
    }

    public int steps(int i, int j, int side) {
        Poly a = placeAt(i);
        Poly b = placeAt(j);
        if (a == null || b == null || !isSide(side)) {
            return NONE;
        }
        int many = euclid.divisions(a, b, side);
        startRow();
        for (int n = 0; n < many; n++) {
            tell(euclid.restDegree(n));
        }
        return many;
    }

    public int crosses(int i, int j, int k) {
        Poly a = placeAt(i);
        Poly b = placeAt(j);
        Poly c = placeAt(k);
        if (a == null || b == null || c == null) {
            return -2;
        }
        ring.product(a, b, answer);
        ring.product(b, a, spare);
        ring.difference(answer, spare, answer);
        return keep(answer, c);
    }

    public int maps(int i, int n, int k) {
        Poly a = placeAt(i);
        Poly c = placeAt(k);
        if (a == null || c == null || !isTurns(n)) {
            return -2;
        }
        ring.mapped(a, n, c);
        return c.top;
    }

    public int monic(int place) {
        Poly a = placeAt(place);
        if (a == null) {
            return NONE;
        }
        int leading = a.leading();
        if (leading == 0) {
            return -2;
        }
        ring.makeMonic(a, 0);
        return leading;
    }

    public int form(int place, int what) {
        Poly a = placeAt(place);
        if (a == null) {
            return NONE;
        }
        switch (what) {
            case 0:
                return a.leading();
            case 1:
                return a.weight();
            case 2:
                return a.top < 0 ? -2 : a.lowest();
            case 3:
                return a.isOne() ? 1 : 0;
            default:
                return NONE;
        }
    }

    public int same(int i, int j) {
        Poly a = placeAt(i);
        Poly b = placeAt(j);
        if (a == null || b == null) {
            return NONE;
        }
        ring.product(a, b, answer);
        ring.product(b, a, spare);
        startRow();
        tell(answer.isLike(spare) ? 1 : 0);
        return a.isLike(b) ? 1 : 0;
    }

    public int power(int i, int n, int k) {
        Poly a = placeAt(i);
        Poly c = placeAt(k);
        if (a == null || c == null || n < 0 || n > MOST_TURNS) {
            return -2;
        }
        if (a.top * n > MOST_DEGREE) {
            return -3;
        }
        answer.become(1);
        for (int times = 0; times < n; times++) {
            ring.product(answer, a, answer);
        }
        return keep(answer, c);
    }

    public int turned(int c, int i, int k) {
        Poly a = placeAt(i);
        Poly b = placeAt(k);
        if (a == null || b == null || !field.has(c)) {
            return -2;
        }
        if (c == 0) {
            return -3;
        }
        ring.scaled(field.inverted(c), a, answer);
        ring.scaledBehind(answer, c, b);
        return b.top;
    }

    public int cofactors(int i, int j, int k, int l) {
        Poly a = placeAt(i);
        Poly b = placeAt(j);
        Poly c = placeAt(k);
        Poly d = placeAt(l);
        if (a == null || b == null || c == null || d == null) {
            return NONE;
        }
        if (a.top < 0 && b.top < 0) {
            return -2;
        }
        if (k == l) {
            return -3;
        }
        euclid.run(a, b, 0);
        return euclid.cofactorsTo(c, d);
    }

    public int fits(int k) {
        int fault = text.readCouples(field.q);
        text.clear();
        if (fault >= 0) {
            return FAULT - fault;
        }
        Poly c = placeAt(k);
        if (c == null) {
            return -100;
        }
        if (!values.fit(text, answer)) {
            return -3;
        }
        c.copy(answer);
        return c.top;
    }

    // ---- values

    public int value(int place, int a) {
        Poly f = placeAt(place);
        return f == null || !field.has(a) ? NONE : values.valueAt(f, a);
    }

    public int roots(int place) {
        Poly f = placeAt(place);
        if (f == null) {
            return NONE;
        }
        int bits = values.rootsOf(f);
        startRow();
        tell(Integer.bitCount(bits));
        return bits;
    }

    public int does(int place, int x) {
        Poly f = placeAt(place);
        return f == null || !field.has(x) ? NONE : values.done(f, x);
    }

    public int kernel(int place) {
        Poly f = placeAt(place);
        if (f == null) {
            return NONE;
        }
        int bits = values.doneTo(f, 0);
        startRow();
        tell(Integer.bitCount(bits));
        tell(Integer.bitCount(values.images(f)));
        return bits;
    }

    public int solves(int place, int v) {
        Poly f = placeAt(place);
        if (f == null || !field.has(v)) {
            return NONE;
        }
        int bits = values.doneTo(f, v);
        startRow();
        tell(Integer.bitCount(bits));
        return bits;
    }

    public int reaches(int place) {
        Poly f = placeAt(place);
        if (f == null) {
            return NONE;
        }
        if (f.top < 0) {
            return -2;
        }
        int n = ring.reach(f, MOST_REACH);
        return n > 0 ? n : -3;
    }

    public int basis(int set) {
        if (!isSet(set)) {
            return NONE;
        }
        int taken = values.basisOf(set, answer);
        startRow();
        tell(taken);
        return Integer.bitCount(taken);
    }

    public int shares(int i, int j) {
        Poly f = placeAt(i);
        Poly g = placeAt(j);
        if (f == null || g == null) {
            return NONE;
        }
        int first = values.rootsOf(f);
        int second = values.rootsOf(g);
        startRow();
        tell(first & ~second);
        tell(second & ~first);
        return first & second;
    }

    public int eigen(int place) {
        Poly f = placeAt(place);
        if (f == null) {
            return NONE;
        }
        int bits = 0;
        startRow();
        for (int a = 0; a < field.q; a++) {
            int x = values.leastStretched(f, a);
            if (x > 0) {
                bits |= 1 << a;
                tell(x);
            }
        }
        return bits;
    }

    public int vanishes(int set, int k) {
        Poly c = placeAt(k);
        if (c == null || !isSet(set)) {
            return NONE;
        }
        values.basisOf(set, answer);
        c.copy(answer);
        startRow();
        tell(values.rootsOf(c));
        return c.top;
    }

    // ---- divisors and factors

    public int divisors(int place, int d) {
        Poly a = placeAt(place);
        if (a == null || d < 1 || d > 3) {
            return NONE;
        }
        int refusal = refusalOf(a);
        if (refusal < 0) {
            return refusal;
        }
        int many = divisors.survey(a, d, answer);
        startRow();
        for (int k = 0; k <= d && many > 0; k++) {
            tell(answer.at(k));
        }
        return many;
    }

    public int prime(int place) {
        Poly a = placeAt(place);
        if (a == null) {
            return NONE;
        }
        int refusal = refusalOf(a);
        if (refusal < 0) {
            return refusal;
        }
        return divisors.isPrime(a) ? 1 : 0;
    }

    public int factors(int place) {
        Poly a = placeAt(place);
        if (a == null) {
            return NONE;
        }
        int refusal = refusalOf(a);
        if (refusal < 0) {
            return refusal;
        }
        startRow();
        tell(a.leading());
        int many = divisors.split(a);
        for (int j = 1; j <= many; j++) {
            Poly f = divisors.factorAt(j);
            tell(f == null ? 0 : f.top);
        }
        return many;
    }

    public int factor(int j, int k) throws NoSuchElementException {
        Poly f = divisors.factorAt(j);
        if (f == null || k < 0 || k > f.top) {
            throw new NoSuchElementException();
        }
        return f.at(k);
    }

    public int ways(int place) {
        Poly a = placeAt(place);
        if (a == null) {
            return NONE;
        }
        int refusal = refusalOf(a);
        return refusal < 0 ? refusal : divisors.waysFrom(a, 0);
    }

    public int likes(int place) {
        Poly a = placeAt(place);
        if (a == null) {
            return NONE;
        }
        if (a.top < 0) {
            return -2;
        }
        return a.top < 1 || a.top > 2 ? -3 : likeness.kin(a);
    }

    public int like(int i, int j) {
        Poly a = placeAt(i);
        Poly b = placeAt(j);
        if (a == null || b == null) {
            return NONE;
        }
        if (a.top < 0 || b.top < 0) {
            return -2;
        }
        if (a.top > MOST_ASKED || b.top > MOST_ASKED) {
            return -3;
        }
        if (a.top != b.top || a.top == 0) {
            return -4;
        }
        boolean found = likeness.findWay(a, b);
        startRow();
        for (int k = 0; k < a.top && found; k++) {
            tell(likeness.way.at(k));
        }
        return found ? 1 : 0;
    }

    public int commuting(int place) {
        Poly a = placeAt(place);
        if (a == null) {
            return NONE;
        }
        if (a.top < 0) {
            return -2;
        }
        if (a.top < 1 || a.top > 3) {
            return -3;
        }
        int coprime = likeness.countWays(a, a);
        startRow();
        tell(coprime);
        return likeness.many;
    }

    public int central(int place) {
        Poly a = placeAt(place);
        if (a == null) {
            return NONE;
        }
        return centre.holds(a) ? 1 : 0;
    }

    public int bound(int place) {
        Poly a = placeAt(place);
        if (a == null) {
            return NONE;
        }
        if (a.top < 0) {
            return -2;
        }
        int d = centre.boundOf(a);
        startRow();
        for (int k = 0; k <= d; k++) {
            tell(span.relationAt(k));
        }
        return d;
    }

    public int part(int place, int k) {
        Poly a = placeAt(place);
        Poly c = placeAt(k);
        if (a == null || c == null) {
            return NONE;
        }
        int refusal = refusalOf(a);
        if (refusal < 0) {
            return refusal;
        }
        centre.greatestPart(a, answer);
        c.copy(answer);
        return c.top;
    }

    public int primes(int d) {
        switch (d) {
            case 1:
                return field.q;
            case 2:
                return values.quadraticsWithoutRoots();
            default:
                return NONE;
        }
    }

    public int count(int what) {
        switch (what) {
            case 0:
                return field.kind;
            case 1:
                return field.q;
            case 2:
                return field.p;
            case 3:
                return field.m;
            case 4:
                return placesInUse();
            case 5:
                return divisors.factorCount;
            case 6:
                return toldCount;
            case 7:
                return text.length;
            default:
                return NONE;
        }
    }

    public long row(int i) throws NoSuchElementException {
        if (i < 0 || i >= toldCount || i >= told.length) {
            throw new NoSuchElementException();
        }
        return told[i];
    }

    // ---- what several calls need

    private Poly placeAt(int i) {
        return i >= 0 && i < places.length ? places[i] : null;
    }

    private int placesInUse() {
        int bits = 0;
        for (int i = 0; i < places.length; i++) {
            Poly a = placeAt(i);
            if (a != null && a.top >= 0) {
                bits |= 1 << i;
            }
        }
        return bits;
    }

    private void startRow() {
        toldCount = 0;
    }

    private void tell(long v) {
        if (toldCount >= 0 && toldCount < told.length) {
            told[toldCount] = v;
            toldCount++;
        }
    }

    private boolean isSet(int set) {
        return set >= 0 && set < 1 << field.q;
    }

    private static boolean isSide(int side) {
        return side == 0 || side == 1;
    }

    private static boolean isTurns(int k) {
        return k >= -MOST_TURNS && k <= MOST_TURNS;
    }

    private static int refusalOf(Poly a) {
        if (a.top < 0) {
            return -2;
        }
        return a.top > MOST_ASKED ? -3 : 0;
    }

    private static int keep(Poly found, Poly place) {
        if (found.top > MOST_DEGREE) {
            return -3;
        }
        place.copy(found);
        return place.top;
    }

    private int divided(int i, int j, int side, int k, boolean wantsQuotient) {
        Poly a = placeAt(i);
        Poly b = placeAt(j);
        Poly c = placeAt(k);
        if (a == null || b == null || c == null || !isSide(side)) {
            return -2;
        }
        if (b.top < 0) {
            return -3;
        }
        ring.divide(a, b, side, answer, spare);
        c.copy(wantsQuotient ? answer : spare);
        return c.top;
    }

    /** The numbers of the field in use, with every operation on them as a table. */
    private static final class Field {
        private static final int KINDS = 4;
        private static final int MOST_Q = 16;
        private static final int MOST_M = 4;

        private int kind;
        private int q;
        private int p;
        private int m;
        private final int[] sums = new int[MOST_Q * MOST_Q];
        private final int[] products = new int[MOST_Q * MOST_Q];
        private final int[] images = new int[MOST_M * MOST_Q];
        private final int[] inverses = new int[MOST_Q];
        private final int[] opposites = new int[MOST_Q];

        static boolean isKind(int f) {
            return f >= 0 && f < KINDS;
        }

        void become(int f) {
            kind = f;
            p = f == 2 ? 3 : 2;
            m = f == 3 ? 4 : f == 1 ? 3 : 2;
            q = 1;
            for (int s = 0; s < m; s++) {
                q *= p;
            }
            fillTables();
        }

        boolean has(int a) {
            return a >= 0 && a < q;
        }

        int sum(int a, int b) {
            int i = a * MOST_Q + b;
            return i >= 0 && i < sums.length ? sums[i] : 0;
        }

        int product(int a, int b) {
            int i = a * MOST_Q + b;
            return i >= 0 && i < products.length ? products[i] : 0;
        }

        int opposite(int a) {
            return a >= 0 && a < opposites.length ? opposites[a] : 0;
        }

        int difference(int a, int b) {
            return sum(a, opposite(b));
        }

        int inverted(int a) {
            return a >= 0 && a < inverses.length ? inverses[a] : 0;
        }

        int ratio(int a, int b) {
            return product(a, inverted(b));
        }

        /** MAP of a, k times: MAP m times brings each number back to itself. */
        int image(int a, int k) {
            if (m < 1) {
                return a;
            }
            int i = Math.floorMod(k, m) * MOST_Q + a;
            return i >= 0 && i < images.length ? images[i] : 0;
        }

        /** a MAP(a) MAP(MAP(a)) .. , i of these. */
        int chain(int a, int i) {
            int product = 1;
            for (int k = 0; k < i; k++) {
                product = product(product, image(a, k));
            }
            return product;
        }

        int conjugate(int a, int c) {
            return ratio(product(image(c, 1), a), c);
        }

        int conjugatesOf(int a) {
            int bits = 0;
            for (int c = 1; c < q; c++) {
                bits |= 1 << conjugate(a, c);
            }
            return bits;
        }

        /** The number that is w^s. */
        int unit(int s) {
            int weight = 1;
            for (int n = 0; n < s && n < m; n++) {
                weight *= p;
            }
            return weight;
        }

        private void fillTables() {
            if (p < 2) {
                return;
            }
            fillSums();
            fillProducts();
            for (int a = 0; a < q; a++) {
                put(images, a, a);
                for (int b = 0; b < q; b++) {
                    if (sum(a, b) == 0) {
                        put(opposites, a, b);
                    }
                    if (product(a, b) == 1) {
                        put(inverses, a, b);
                    }
                }
            }
            for (int k = 1; k < m; k++) {
                for (int a = 0; a < q; a++) {
                    put(images, k * MOST_Q + a, powered(image(a, k - 1)));
                }
            }
        }

        private static void put(int[] table, int i, int v) {
            if (i >= 0 && i < table.length) {
                table[i] = v;
            }
        }

        /** The digits above the lowest were summed when lesser numbers were. */
        private void fillSums() {
            put(sums, 0, 0);
            for (int a = 0; a < q && p > 0; a++) {
                for (int b = 0; b < q; b++) {
                    int lowest = (a % p + b % p) % p;
                    int others = a + b == 0 ? 0 : sum(a / p, b / p);
                    put(sums, a * MOST_Q + b, lowest + others * p);
                }
            }
        }

        /** a times the digits above the lowest stands at a lesser b; it lacks one w. */
        private void fillProducts() {
            for (int a = 0; a < q && p > 0; a++) {
                for (int b = 0; b < q; b++) {
                    int others = b == 0 ? 0 : product(a, b / p);
                    int all = timesW(others);
                    for (int n = b % p; n > 0; n--) {
                        all = sum(all, a);
                    }
                    put(products, a * MOST_Q + b, all);
                }
            }
        }

        /** The digit that leaves at the top comes back as w + 1, in each of the fields. */
        private int timesW(int a) {
            int highest = unit(m - 1);
            if (highest < 1) {
                return 0;
            }
            int top = a / highest;
            return sum(a % highest * p, top + top * p);
        }

        private int powered(int a) {
            int power = 1;
            for (int n = 0; n < p; n++) {
                power = product(power, a);
            }
            return power;
        }
    }

    /** a0 + a1 t + .. ; products of two from the places fit in. */
    private static final class Poly {
        private static final int ROOM = 2 * MOST_DEGREE + 1;

        private final int[] a = new int[ROOM];
        /** The degree, NONE of 0. */
        private int top = NONE;

        int at(int k) {
            return k >= 0 && k < a.length ? a[k] : 0;
        }

        void put(int k, int v) {
            if (k < 0 || k >= a.length) {
                return;
            }
            a[k] = v;
            if (v != 0 && k > top) {
                top = k;
            }
            while (top >= 0 && top < a.length && a[top] == 0) {
                top--;
            }
        }

        void clear() {
            for (int k = 0; k <= top && k < a.length; k++) {
                a[k] = 0;
            }
            top = NONE;
        }

        void become(int number) {
            clear();
            put(0, number);
        }

        /** t^d and nothing else. */
        void becomeStep(int d) {
            clear();
            put(d, 1);
        }

        void copy(Poly b) {
            int most = Math.max(top, b.top);
            for (int k = 0; k <= most && k < a.length; k++) {
                a[k] = b.at(k);
            }
            top = b.top;
        }

        int leading() {
            return at(top);
        }

        int weight() {
            int many = 0;
            for (int k = 0; k <= top; k++) {
                if (at(k) != 0) {
                    many++;
                }
            }
            return many;
        }

        int lowest() {
            for (int k = 0; k <= top; k++) {
                if (at(k) != 0) {
                    return k;
                }
            }
            return NONE;
        }

        boolean isOne() {
            return top == 0 && at(0) == 1;
        }

        boolean isLike(Poly b) {
            return compared(b) == 0;
        }

        /** Below 0 if it comes before b by ORDER, above 0 if behind it. */
        int compared(Poly b) {
            if (top != b.top) {
                return top - b.top;
            }
            for (int k = top; k >= 0; k--) {
                if (at(k) != b.at(k)) {
                    return at(k) - b.at(k);
                }
            }
            return 0;
        }
    }

    /** Sums, products and divisions of polynomials; side 1 is side 0 with all products turned round. */
    private static final class Ring {
        private static final int MOST_DIVISIONS = 20;

        private final Field field;
        private final Poly product = new Poly();
        private final Poly quotient = new Poly();
        private final Poly first = new Poly();
        private final Poly second = new Poly();
        private final Poly third = new Poly();

        Ring(Field field) {
            this.field = field;
        }

        void sum(Poly x, Poly y, Poly out) {
            for (int k = highest(x, y, out); k >= 0; k--) {
                out.put(k, field.sum(x.at(k), y.at(k)));
            }
        }

        void difference(Poly x, Poly y, Poly out) {
            for (int k = highest(x, y, out); k >= 0; k--) {
                out.put(k, field.difference(x.at(k), y.at(k)));
            }
        }

        private static int highest(Poly x, Poly y, Poly out) {
            return Math.max(out.top, Math.max(x.top, y.top));
        }

        void scaled(int c, Poly x, Poly out) {
            for (int k = Math.max(x.top, out.top); k >= 0; k--) {
                out.put(k, field.product(c, x.at(k)));
            }
        }

        /** x times c: the number c passes t^k as MAP k times of it. */
        void scaledBehind(Poly x, int c, Poly out) {
            for (int k = Math.max(x.top, out.top); k >= 0; k--) {
                out.put(k, field.product(x.at(k), field.image(c, k)));
            }
        }

        void mapped(Poly x, int n, Poly out) {
            for (int k = Math.max(x.top, out.top); k >= 0; k--) {
                out.put(k, field.image(x.at(k), n));
            }
        }

        void product(Poly x, Poly y, Poly out) {
            product.clear();
            for (int i = 0; i <= x.top; i++) {
                for (int j = 0; j <= y.top; j++) {
                    int part = field.product(x.at(i), field.image(y.at(j), i));
                    product.put(i + j, field.sum(product.at(i + j), part));
                }
            }
            out.copy(product);
        }

        /** The product that a division at a side is undone with. */
        void productAt(int side, Poly x, Poly y, Poly out) {
            if (side == 0) {
                product(x, y, out);
            } else {
                product(y, x, out);
            }
        }

        /** x by y, which is not 0; answer and rest are neither of them. */
        void divide(Poly x, Poly y, int side, Poly answer, Poly rest) {
            answer.clear();
            rest.copy(x);
            if (y.top < 0) {
                return;
            }
            for (int k = x.top - y.top; k >= 0; k--) {
                int lead = rest.at(k + y.top);
                if (lead != 0 && side == 0) {
                    int c = field.ratio(lead, field.image(y.leading(), k));
                    answer.put(k, c);
                    takeAhead(rest, c, k, y);
                } else if (lead != 0) {
                    int c = field.image(field.ratio(lead, y.leading()), -y.top);
                    answer.put(k, c);
                    takeBehind(rest, c, k, y);
                }
            }
        }

        /** rest less c t^k y. */
        private void takeAhead(Poly rest, int c, int k, Poly y) {
            for (int i = y.top; i >= 0; i--) {
                int part = field.product(c, field.image(y.at(i), k));
                rest.put(k + i, field.difference(rest.at(k + i), part));
            }
        }

        /** rest less y c t^k. */
        private void takeBehind(Poly rest, int c, int k, Poly y) {
            for (int i = y.top; i >= 0; i--) {
                int part = field.product(y.at(i), field.image(c, i));
                rest.put(k + i, field.difference(rest.at(k + i), part));
            }
        }

        boolean divides(Poly y, Poly x) {
            divide(x, y, 0, quotient, first);
            return first.top < 0;
        }

        /** A number beside a divisor at side 1 stands behind it: ahead of it, it would be another divisor. */
        void makeMonic(Poly x, int side) {
            int c = field.inverted(x.leading());
            if (side == 0) {
                scaled(c, x, x);
            } else {
                scaledBehind(x, field.image(c, -x.top), x);
            }
        }

        /** Whether the DIVISOR of both at side 0 is 1. */
        boolean areCoprime(Poly x, Poly y) {
            Poly upper = first;
            Poly lower = second;
            Poly rest = third;
            upper.copy(y);
            lower.copy(x);
            for (int n = 0; n < MOST_DIVISIONS && lower.top > 0; n++) {
                divide(upper, lower, 0, quotient, rest);
                Poly old = upper;
                upper = lower;
                lower = rest;
                rest = old;
            }
            return lower.top == 0 || upper.top == 0;
        }

        /** x, of a degree below y's, becomes what is left of t x by y at side 0. */
        void step(Poly x, Poly y) {
            for (int k = x.top; k >= 0; k--) {
                x.put(k + 1, field.image(x.at(k), 1));
            }
            x.put(0, 0);
            if (x.top >= 0 && x.top == y.top) {
                takeAhead(x, field.ratio(x.leading(), y.leading()), 0, y);
            }
        }

        /** What is left of 1 by y. */
        void startSteps(Poly x, Poly y) {
            x.become(y.top > 0 ? 1 : 0);
        }

        /** The least n up to most for which y divides t^n less 1 at side 0; 0: none. */
        int reach(Poly y, int most) {
            startSteps(first, y);
            startSteps(second, y);
            for (int n = 1; n <= most; n++) {
                step(first, y);
                if (first.isLike(second)) {
                    return n;
                }
            }
            return 0;
        }
    }

    /** Three polynomials that the way to a divisor carries along. */
    private static final class Line {
        private final Poly value = new Poly();
        private final Poly ofFirst = new Poly();
        private final Poly ofSecond = new Poly();

        void start(Poly x, int one, int other) {
            value.copy(x);
            ofFirst.become(one);
            ofSecond.become(other);
        }
    }

    /** The chain of divisions of two polynomials at a side. */
    private static final class Euclid {
        private static final int MOST_DIVISIONS = 20;

        private final Ring ring;
        private Line upper = new Line();
        private Line lower = new Line();
        private Line next = new Line();
        private final Poly quotient = new Poly();
        private final Poly part = new Poly();
        private final int[] restDegrees = new int[MOST_DIVISIONS];

        Euclid(Ring ring) {
            this.ring = ring;
        }

        void run(Poly x, Poly y, int side) {
            upper.start(x, 1, 0);
            lower.start(y, 0, 1);
            for (int n = 0; n < MOST_DIVISIONS && lower.value.top >= 0; n++) {
                ring.divide(upper.value, lower.value, side, quotient, next.value);
                lessProduct(upper.ofFirst, lower.ofFirst, side, next.ofFirst);
                lessProduct(upper.ofSecond, lower.ofSecond, side, next.ofSecond);
                turnLines();
            }
        }

        private void lessProduct(Poly x, Poly y, int side, Poly out) {
            ring.productAt(side, quotient, y, part);
            ring.difference(x, part, out);
        }

        private void turnLines() {
            Line old = upper;
            upper = lower;
            lower = next;
            next = old;
        }

        void divisorTo(int side, Poly out) {
            out.copy(upper.value);
            ring.makeMonic(out, side);
        }

        /** Where the chain ends at 0, its multiplier of x makes the least multiple of x and y. */
        void multipleTo(Poly x, int side, Poly out) {
            ring.productAt(side, lower.ofFirst, x, out);
            ring.makeMonic(out, side);
        }

        int cofactorsTo(Poly forFirst, Poly forSecond) {
            int c = ring.field.inverted(upper.value.leading());
            ring.scaled(c, upper.ofFirst, forFirst);
            ring.scaled(c, upper.ofSecond, forSecond);
            return upper.value.top;
        }

        /** How many divisions there are till nothing is left. */
        int divisions(Poly x, Poly y, int side) {
            upper.value.copy(x);
            lower.value.copy(y);
            int many = 0;
            while (many < restDegrees.length && lower.value.top >= 0) {
                ring.divide(upper.value, lower.value, side, quotient, next.value);
                restDegrees[many] = next.value.top;
                turnLines();
                many++;
            }
            return many;
        }

        int restDegree(int n) {
            return n >= 0 && n < restDegrees.length ? restDegrees[n] : NONE;
        }
    }

    /** Values of polynomials, and what they do as maps of the field. */
    private static final class Values {
        private final Field field;
        private final Ring ring;
        private final Poly linear = new Poly();
        private final Poly vanishing = new Poly();
        private final Poly part = new Poly();

        Values(Field field, Ring ring) {
            this.field = field;
            this.ring = ring;
        }

        /** t^k has the VALUE a MAP(a) MAP(MAP(a)) .. , k of these. */
        int valueAt(Poly f, int a) {
            int sum = 0;
            int power = 1;
            for (int k = 0; k <= f.top; k++) {
                sum = field.sum(sum, field.product(f.at(k), power));
                power = field.product(power, field.image(a, k));
            }
            return sum;
        }

        int rootsOf(Poly f) {
            int bits = 0;
            for (int a = 0; a < field.q; a++) {
                if (valueAt(f, a) == 0) {
                    bits |= 1 << a;
                }
            }
            return bits;
        }

        int done(Poly f, int x) {
            int sum = 0;
            for (int k = 0; k <= f.top; k++) {
                sum = field.sum(sum, field.product(f.at(k), field.image(x, k)));
            }
            return sum;
        }

        int doneTo(Poly f, int v) {
            int bits = 0;
            for (int x = 0; x < field.q; x++) {
                if (done(f, x) == v) {
                    bits |= 1 << x;
                }
            }
            return bits;
        }

        int images(Poly f) {
            int bits = 0;
            for (int x = 0; x < field.q; x++) {
                bits |= 1 << done(f, x);
            }
            return bits;
        }

        /** The least x but 0 that f does to a x; 0: none. */
        int leastStretched(Poly f, int a) {
            for (int x = 1; x < field.q; x++) {
                if (done(f, x) == field.product(a, x)) {
                    return x;
                }
            }
            return 0;
        }

        /** The numbers of a set that are taken, as bits; f becomes what vanishes at all of the set. */
        int basisOf(int set, Poly f) {
            int taken = 0;
            f.become(1);
            for (int a = 0; a < field.q; a++) {
                if ((set >> a & 1) == 1 && vanishAlso(f, a)) {
                    taken |= 1 << a;
                }
            }
            return taken;
        }

        /** (t - b) f has the VALUE 0 at a, if b is what a becomes by the VALUE of f there. */
        private boolean vanishAlso(Poly f, int a) {
            int v = valueAt(f, a);
            if (v == 0) {
                return false;
            }
            linear.becomeStep(1);
            linear.put(0, field.opposite(field.conjugate(a, v)));
            ring.product(linear, f, f);
            return true;
        }

        /** What fits so far takes up a multiple of what vanishes so far: false if none fits. */
        boolean fit(Text text, Poly out) {
            out.clear();
            vanishing.become(1);
            for (int n = 0; n < text.couples; n++) {
                int a = text.pointAt(n);
                int lacks = field.difference(text.valueAt(n), valueAt(out, a));
                int v = valueAt(vanishing, a);
                if (v == 0 && lacks != 0) {
                    return false;
                }
                ring.scaled(field.ratio(lacks, v), vanishing, part);
                ring.sum(out, part, out);
                vanishAlso(vanishing, a);
            }
            return true;
        }

        /** For each a1, a0 is the opposite of what the others come to at a root. */
        int quadraticsWithoutRoots() {
            int many = 0;
            for (int a1 = 0; a1 < field.q; a1++) {
                int reached = 0;
                for (int x = 0; x < field.q; x++) {
                    int rest = field.sum(field.chain(x, 2), field.product(a1, x));
                    reached |= 1 << rest;
                }
                many += field.q - Integer.bitCount(reached);
            }
            return many;
        }
    }

    /** Monic divisors at side 0 and factors of polynomials of degree 4 at most. */
    private static final class Divisors {
        private final Field field;
        private final Ring ring;
        private final Poly rest = new Poly();
        private final Poly found = new Poly();
        private final Poly left = new Poly();
        private final Poly remaining = new Poly();
        private final Poly[] divisorAt = new Poly[MOST_ASKED];
        private final Poly[] leftAt = new Poly[MOST_ASKED];
        /** The last factor first: so they are found. */
        private final Poly[] factors = new Poly[MOST_ASKED];
        private int factorCount;

        Divisors(Field field, Ring ring) {
            this.field = field;
            this.ring = ring;
            for (int i = 0; i < MOST_ASKED; i++) {
                divisorAt[i] = new Poly();
                leftAt[i] = new Poly();
                factors[i] = new Poly();
            }
        }

        void forget() {
            factorCount = 0;
        }

        Poly factorAt(int j) {
            return j >= 1 && j <= factorCount ? polyAt(factors, factorCount - j) : null;
        }

        private static Poly polyAt(Poly[] polys, int i) {
            return i >= 0 && i < polys.length ? polys[i] : null;
        }

        /** How many tries find each monic divisor of degree d of one of degree n, once. */
        private int tries(int n, int d) {
            if (d < 1 || d > n) {
                return 0;
            }
            if (d == n) {
                return 1;
            }
            return d == 1 || d == n - 1 ? field.q : field.q * field.q;
        }

        /** Whether this try finds a divisor b, so that x is quotient b. */
        private boolean hits(Poly x, int d, int index, Poly b, Poly quotient) {
            if (d == x.top) {
                b.copy(x);
                ring.makeMonic(b, 0);
                quotient.become(x.leading());
                return true;
            }
            if (d > 1 && d == x.top - 1) {
                // Far fewer can stand ahead of such a divisor than there are of its degree.
                quotient.becomeStep(1);
                quotient.put(1, x.leading());
                quotient.put(0, index);
                ring.divide(x, quotient, 1, b, rest);
                return rest.top < 0;
            }
            b.becomeStep(d);
            b.put(0, field.q > 0 ? index % field.q : 0);
            if (d > 1) {
                b.put(1, field.q > 0 ? index / field.q : 0);
            }
            ring.divide(x, b, 0, quotient, rest);
            return rest.top < 0;
        }

        /** How many divisors of degree d there are; out becomes the first by ORDER. */
        int survey(Poly x, int d, Poly out) {
            int many = 0;
            for (int index = 0; index < tries(x.top, d); index++) {
                if (hits(x, d, index, found, left)) {
                    if (many == 0 || found.compared(out) < 0) {
                        out.copy(found);
                    }
                    many++;
                }
            }
            return many;
        }

        boolean isPrime(Poly x) {
            for (int d = 1; d < x.top; d++) {
                for (int index = 0; index < tries(x.top, d); index++) {
                    if (hits(x, d, index, found, left)) {
                        return false;
                    }
                }
            }
            return x.top > 0;
        }

        /** A first divisor of least degree is prime: a divisor of it would come before it. */
        int split(Poly x) {
            factorCount = 0;
            remaining.copy(x);
            for (int n = 0; n < MOST_ASKED && remaining.top > 0; n++) {
                Poly f = polyAt(factors, n);
                if (f == null) {
                    return factorCount;
                }
                int d = 1;
                while (d <= MOST_ASKED && survey(remaining, d, f) == 0) {
                    d++;
                }
                ring.divide(remaining, f, 0, left, rest);
                remaining.copy(left);
                factorCount++;
            }
            return factorCount;
        }

        /** What is left after each prime is shorter: depth stays below the degree asked first. */
        private int waysFrom(Poly x, int depth) {
            if (x.top < 2 || depth >= MOST_ASKED) {
                return 1;
            }
            Poly b = polyAt(divisorAt, depth);
            Poly quotient = polyAt(leftAt, depth);
            if (b == null || quotient == null) {
                return 0;
            }
            int sum = 0;
            for (int d = 1; d <= x.top; d++) {
                for (int index = 0; index < tries(x.top, d); index++) {
                    if (hits(x, d, index, b, quotient) && isPrime(b)) {
                        sum += waysFrom(quotient, depth + 1);
                    }
                }
            }
            return sum;
        }
    }

    /** Digit rows modulo p, and the first relation among them. */
    private static final class Span {
        private static final int MOST_ROWS = 17;
        private static final int WIDTH = 32;

        private final Field field;
        private final int[] rows = new int[MOST_ROWS * WIDTH];
        private final int[] origins = new int[MOST_ROWS * MOST_ROWS];
        private final int[] pivots = new int[MOST_ROWS];
        private int count;
        private int offered;

        Span(Field field) {
            this.field = field;
        }

        void start() {
            count = 0;
            offered = 0;
        }

        /** Whether the digits of x (of a degree below n) depend on those offered before; the relation tells how. */
        boolean depends(Poly x, int n) {
            if (count >= MOST_ROWS || offered >= MOST_ROWS) {
                return true;
            }
            writeDigits(x, n);
            for (int i = 0; i < MOST_ROWS; i++) {
                set(origins, count * MOST_ROWS + i, i == offered ? 1 : 0);
            }
            offered++;
            // Each row is 0 at the pivots of the rows before it: one pass in their order clears all pivots.
            for (int r = 0; r < count; r++) {
                int factor = get(rows, count * WIDTH + get(pivots, r));
                if (factor != 0) {
                    take(rows, WIDTH, r, factor);
                    take(origins, MOST_ROWS, r, factor);
                }
            }
            return !settles();
        }

        private void writeDigits(Poly x, int n) {
            for (int i = 0; i < WIDTH; i++) {
                set(rows, count * WIDTH + i, 0);
            }
            int i = count * WIDTH;
            for (int k = 0; k < n; k++) {
                int rest = x.at(k);
                for (int s = 0; s < field.m && field.p > 0; s++) {
                    set(rows, i, rest % field.p);
                    rest /= field.p;
                    i++;
                }
            }
        }

        /** Whether the new row has something left: then it stays, with a 1 at its pivot. */
        private boolean settles() {
            int pivot = 0;
            while (pivot < WIDTH && get(rows, count * WIDTH + pivot) == 0) {
                pivot++;
            }
            if (pivot == WIDTH) {
                return false;
            }
            // Modulo 2 and 3 a digit is its own inverse.
            int scale = get(rows, count * WIDTH + pivot);
            multiply(rows, WIDTH, scale);
            multiply(origins, MOST_ROWS, scale);
            set(pivots, count, pivot);
            count++;
            return true;
        }

        /** How often the thing offered as number i is in the relation: modulo p all these come to 0. */
        int relationAt(int i) {
            return i >= 0 && i < MOST_ROWS ? get(origins, count * MOST_ROWS + i) : 0;
        }

        private static int get(int[] digits, int i) {
            return i >= 0 && i < digits.length ? digits[i] : 0;
        }

        private static void set(int[] digits, int i, int v) {
            if (i >= 0 && i < digits.length) {
                digits[i] = v;
            }
        }

        /** The new row less factor times row r. */
        private void take(int[] table, int width, int r, int factor) {
            int here = count * width;
            for (int i = 0; i < width && field.p > 0; i++) {
                int less = (field.p - factor) * get(table, r * width + i);
                set(table, here + i, (get(table, here + i) + less) % field.p);
            }
        }

        private void multiply(int[] table, int width, int factor) {
            int here = count * width;
            for (int i = 0; i < width && field.p > 0; i++) {
                set(table, here + i, get(table, here + i) * factor % field.p);
            }
        }
    }

    /** Which polynomials are like one another, and by which U. */
    private static final class Likeness {
        private static final int MOST_RANK = 16;

        private final Field field;
        private final Ring ring;
        private final Span span;
        private final Poly quotient = new Poly();
        private final Poly part = new Poly();
        private final Poly rest = new Poly();
        /** U's of which all others are sums, each with a 1 as first digit where the others have 0. */
        private final Poly[] base = new Poly[MOST_RANK];
        private final int[] digits = new int[MOST_RANK];
        private final int[] marks = new int[Field.MOST_Q * Field.MOST_Q];
        private final Poly way = new Poly();
        private int rank;
        /** How many U there are at all. */
        private int many;

        Likeness(Field field, Ring ring, Span span) {
            this.field = field;
            this.ring = ring;
            this.span = span;
            for (int i = 0; i < base.length; i++) {
                base[i] = new Poly();
            }
        }

        /** Whether there is a WAY of a to b; the first by ORDER stands in way. */
        boolean findWay(Poly a, Poly b) {
            gather(a, b);
            for (int n = 1; n < many; n++) {
                advance();
                if (ring.areCoprime(way, b)) {
                    return true;
                }
            }
            return false;
        }

        int countWays(Poly a, Poly b) {
            gather(a, b);
            int sum = 0;
            for (int n = 1; n < many; n++) {
                advance();
                if (ring.areCoprime(way, b)) {
                    sum++;
                }
            }
            return sum;
        }

        /** Finds a base of all U of a degree below b's for which b divides a U. */
        private void gather(Poly a, Poly b) {
            rank = 0;
            many = 1;
            way.clear();
            span.start();
            for (int k = 0; k < b.top; k++) {
                for (int s = 0; s < field.m; s++) {
                    part.becomeStep(k);
                    part.put(k, field.unit(s));
                    ring.product(a, part, part);
                    ring.divide(part, b, 0, quotient, rest);
                    if (span.depends(rest, b.top)) {
                        addToBase(b.top);
                    }
                }
            }
        }

        private void addToBase(int n) {
            Poly u = rank >= 0 && rank < base.length ? base[rank] : null;
            if (u == null) {
                return;
            }
            u.clear();
            for (int k = 0; k < n; k++) {
                int number = 0;
                for (int s = 0; s < field.m; s++) {
                    number += span.relationAt(k * field.m + s) * field.unit(s);
                }
                u.put(k, number);
            }
            digits[rank] = 0;
            rank++;
            many *= field.p;
        }

        /** way becomes the next U by ORDER: counting up the digits does so, since the base is kept reduced. */
        private void advance() {
            for (int i = 0; i < rank && i < digits.length; i++) {
                Poly u = base[i];
                if (u != null) {
                    ring.sum(way, u, way);
                }
                digits[i]++;
                if (digits[i] < field.p) {
                    return;
                }
                digits[i] = 0;
            }
        }

        /** How many monic ones are like a, of degree 1 or 2: each makes some V 0 modulo a that makes all else. */
        int kin(Poly a) {
            for (int i = 0; i < marks.length; i++) {
                marks[i] = 0;
            }
            int sum = 0;
            int most = a.top == 1 ? field.q : field.q * field.q;
            for (int code = 1; code < most && field.q > 0; code++) {
                way.become(code % field.q);
                way.put(1, code / field.q);
                int kinCode = a.top == 1 ? linearKin(a) : quadraticKin(a);
                if (kinCode >= 0 && kinCode < marks.length && marks[kinCode] == 0) {
                    marks[kinCode] = 1;
                    sum++;
                }
            }
            return sum;
        }

        /** b0 of the t + b0 that makes the number way 0 modulo a. */
        private int linearKin(Poly a) {
            int v = way.at(0);
            ring.step(way, a);
            return field.opposite(field.ratio(way.at(0), v));
        }

        /** b1 q + b0 of the t t + b1 t + b0 that makes way 0 modulo a; NONE if a lesser degree does so. */
        private int quadraticKin(Poly a) {
            int x0 = way.at(0);
            int x1 = way.at(1);
            ring.step(way, a);
            int y0 = way.at(0);
            int y1 = way.at(1);
            ring.step(way, a);
            int determinant = cross(x0, x1, y0, y1);
            if (determinant == 0) {
                return NONE;
            }
            int b0 = field.ratio(cross(y0, y1, way.at(0), way.at(1)), determinant);
            int b1 = field.ratio(cross(way.at(0), way.at(1), x0, x1), determinant);
            return b1 * field.q + b0;
        }

        private int cross(int x0, int x1, int y0, int y1) {
            return field.difference(field.product(x0, y1), field.product(x1, y0));
        }
    }

    /** The polynomials that commute with all. */
    private static final class Centre {
        private final Field field;
        private final Ring ring;
        private final Span span;
        private final Poly power = new Poly();

        Centre(Field field, Ring ring, Span span) {
            this.field = field;
            this.ring = ring;
            this.span = span;
        }

        boolean holds(Poly a) {
            for (int k = 0; k <= a.top && field.m > 0; k++) {
                int v = a.at(k);
                if (v >= field.p || v != 0 && k % field.m != 0) {
                    return false;
                }
            }
            return true;
        }

        /** What is left of t^0, t^m, t^2m, .. by a: the first relation of these is the central one. */
        int boundOf(Poly a) {
            span.start();
            ring.startSteps(power, a);
            for (int d = 0; d <= MOST_DEGREE; d++) {
                if (span.depends(power, a.top)) {
                    return d;
                }
                for (int s = 0; s < field.m; s++) {
                    ring.step(power, a);
                }
            }
            return MOST_DEGREE;
        }

        void greatestPart(Poly a, Poly out) {
            for (int d = field.m > 0 ? a.top / field.m : 0; d > 0; d--) {
                int most = 1;
                for (int i = 0; i < d; i++) {
                    most *= field.p;
                }
                for (int code = 0; code < most; code++) {
                    becomeCentral(out, d, code);
                    if (ring.divides(out, a)) {
                        return;
                    }
                }
            }
            out.become(1);
        }

        private void becomeCentral(Poly out, int d, int code) {
            out.becomeStep(d * field.m);
            int rest = code;
            for (int i = 0; i < d && field.p > 0; i++) {
                out.put(i * field.m, rest % field.p);
                rest /= field.p;
            }
        }
    }

    /** THE TEXT, and the reading of it: a reading answers the place of a fault, or NONE. */
    private static final class Text {
        private static final int MOST_SIGNS = 40;
        private static final int MOST_NUMBERS = 9;
        private static final int MOST_COUPLES = 6;

        private final int[] signs = new int[MOST_SIGNS];
        private final int[] points = new int[MOST_COUPLES];
        private final int[] wanted = new int[MOST_COUPLES];
        private int length;
        private int couples;
        private int at;
        private int fault;

        boolean append(int v) {
            if (length + 4 > signs.length) {
                return false;
            }
            for (int shift = 24; shift >= 0 && length < signs.length; shift -= 8) {
                signs[length] = v >>> shift & 255;
                length++;
            }
            return true;
        }

        boolean cut(int n) {
            if (n < 0 || n > length) {
                return false;
            }
            length = n;
            return true;
        }

        void clear() {
            length = 0;
        }

        int pointAt(int n) {
            return n >= 0 && n < points.length ? points[n] : 0;
        }

        int valueAt(int n) {
            return n >= 0 && n < wanted.length ? wanted[n] : 0;
        }

        private int signAt(int i) {
            return i >= 0 && i < length && i < signs.length ? signs[i] : NONE;
        }

        private boolean isDigit(int i) {
            return signAt(i) >= '0' && signAt(i) <= '9';
        }

        /** The number that begins here, or NONE: then fault tells where it can't stand. */
        private int readNumber(int q) {
            fault = at;
            if (!isDigit(at)) {
                return NONE;
            }
            int v = signAt(at) - '0';
            at++;
            if (isDigit(at)) {
                v = v * 10 + signAt(at) - '0';
                at++;
            }
            fault = isDigit(at) ? at : at - 1;
            return isDigit(at) || v >= q ? NONE : v;
        }

        int readNumbers(int q, Poly out) {
            at = 0;
            out.clear();
            for (int n = 0; n < MOST_NUMBERS; n++) {
                int v = readNumber(q);
                if (v < 0) {
                    return fault;
                }
                out.put(n, v);
                if (at == length) {
                    return NONE;
                }
                if (signAt(at) != ',' || n + 1 == MOST_NUMBERS) {
                    return at;
                }
                at++;
            }
            return at;
        }

        int readCouples(int q) {
            at = 0;
            couples = 0;
            for (int n = 0; n < MOST_COUPLES; n++) {
                if (!readCouple(q)) {
                    return fault;
                }
                if (at == length) {
                    return NONE;
                }
                if (signAt(at) != ',' || n + 1 == MOST_COUPLES) {
                    return at;
                }
                at++;
            }
            return at;
        }

        private boolean readCouple(int q) {
            int a = readNumber(q);
            if (a < 0 || isPoint(a)) {
                return false;
            }
            fault = at;
            if (signAt(at) != ':') {
                return false;
            }
            at++;
            int v = readNumber(q);
            if (v < 0 || couples < 0 || couples >= MOST_COUPLES) {
                return false;
            }
            points[couples] = a;
            wanted[couples] = v;
            couples++;
            return true;
        }

        private boolean isPoint(int a) {
            for (int n = 0; n < couples; n++) {
                if (pointAt(n) == a) {
                    return true;
                }
            }
            return false;
        }
    }
}
