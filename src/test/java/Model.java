import java.util.ArrayList;
import java.util.Arrays;
import java.util.List;
import java.util.TreeMap;
import java.util.TreeSet;

/**
 * The document once more, by its definitions and by search alone: slow, and on purpose by other roads than the class.
 * A polynomial is an int[] without zeros at its end (0 is empty).
 */
final class Model {
    static final int[] P = {2, 2, 3, 2};
    static final int[] M = {2, 3, 2, 4};

    int kind, p, m, q;
    int[][] places = new int[6][];
    List<Long> row = new ArrayList<>();
    List<int[]> factors = new ArrayList<>();
    int leading;
    StringBuilder text = new StringBuilder();

    Model() {
        become(0);
    }

    private void become(int f) {
        kind = f;
        p = P[f];
        m = M[f];
        q = 1;
        for (int i = 0; i < m; i++) q *= p;
        Arrays.fill(places, new int[0]);
        factors.clear();
    }

    // ---- numbers as lists of digits

    int[] digits(int a) {
        int[] d = new int[m];
        for (int i = 0; i < m; i++) { d[i] = a % p; a /= p; }
        return d;
    }

    int undigits(int[] d) {
        int a = 0;
        for (int i = m - 1; i >= 0; i--) a = a * p + d[i];
        return a;
    }

    int add(int a, int b) {
        int[] x = digits(a), y = digits(b);
        for (int i = 0; i < m; i++) x[i] = (x[i] + y[i]) % p;
        return undigits(x);
    }

    int neg(int a) {
        int[] x = digits(a);
        for (int i = 0; i < m; i++) x[i] = (p - x[i]) % p;
        return undigits(x);
    }

    int sub(int a, int b) { return add(a, neg(b)); }

    int mul(int a, int b) {
        int[] x = digits(a), y = digits(b), z = new int[2 * m];
        for (int i = 0; i < m; i++) for (int j = 0; j < m; j++) z[i + j] = (z[i + j] + x[i] * y[j]) % p;
        for (int k = 2 * m - 1; k >= m; k--) {
            z[k - m] = (z[k - m] + z[k]) % p;
            z[k - m + 1] = (z[k - m + 1] + z[k]) % p;
            z[k] = 0;
        }
        return undigits(z);
    }

    int inv(int a) {
        for (int b = 1; b < q; b++) if (mul(a, b) == 1) return b;
        throw new IllegalArgumentException();
    }

    int frob(int a) {
        int r = 1;
        for (int i = 0; i < p; i++) r = mul(r, a);
        return r;
    }

    int frob(int a, int k) {
        for (; k > 0; k--) a = frob(a);
        for (; k < 0; k++) {
            int b = 0;
            while (frob(b) != a) b++;
            a = b;
        }
        return a;
    }

    boolean has(int a) { return a >= 0 && a < q; }

    // ---- polynomials

    static int deg(int[] a) { return a.length - 1; }

    static int at(int[] a, int k) { return k < a.length ? a[k] : 0; }

    static int[] trim(int[] a) {
        int n = a.length;
        while (n > 0 && a[n - 1] == 0) n--;
        return Arrays.copyOf(a, n);
    }

    static int lead(int[] a) { return a.length == 0 ? 0 : a[a.length - 1]; }

    int[] add(int[] a, int[] b) {
        int[] c = new int[Math.max(a.length, b.length)];
        for (int k = 0; k < c.length; k++) c[k] = add(at(a, k), at(b, k));
        return trim(c);
    }

    int[] scale(int c, int[] a) {
        int[] b = new int[a.length];
        for (int k = 0; k < a.length; k++) b[k] = mul(c, a[k]);
        return trim(b);
    }

    int[] sub(int[] a, int[] b) { return add(a, scale(neg(1), b)); }

    /** t a: each number lets t pass as its MAP. */
    int[] t(int[] a) {
        int[] b = new int[a.length + 1];
        for (int k = 0; k < a.length; k++) b[k + 1] = frob(a[k]);
        return trim(b);
    }

    int[] mul(int[] a, int[] b) {
        int[] sum = {};
        int[] shifted = b;
        for (int k = 0; k < a.length; k++) {
            sum = add(sum, scale(a[k], shifted));
            shifted = t(shifted);
        }
        return sum;
    }

    static int[] power(int k, int c) {
        int[] a = new int[k + 1];
        a[k] = c;
        return trim(a);
    }

    /** Quotient and remainder: each number of the quotient is searched. */
    int[][] divide(int[] a, int[] b, int side) {
        int[] quot = {};
        int[] rest = a;
        while (deg(rest) >= deg(b)) {
            int before = deg(rest);
            for (int c = 1; c < q; c++) {
                int[] step = power(before - deg(b), c);
                int[] less = sub(rest, side == 0 ? mul(step, b) : mul(b, step));
                if (deg(less) < before) {
                    rest = less;
                    quot = add(quot, step);
                    break;
                }
            }
            if (deg(rest) == before) throw new IllegalStateException();
        }
        return new int[][] {quot, rest};
    }

    boolean divides(int[] b, int[] a, int side) { return deg(divide(a, b, side)[1]) < 0; }

    /** All of degree d, monic, by ORDER. */
    List<int[]> monics(int d) {
        List<int[]> all = new ArrayList<>();
        int n = 1;
        for (int i = 0; i < d; i++) n *= q;
        for (int code = 0; code < n; code++) {
            int[] a = new int[d + 1];
            int rest = code;
            for (int k = 0; k < d; k++) { a[k] = rest % q; rest /= q; }
            a[d] = 1;
            all.add(a);
        }
        return all;
    }

    /** All of a degree below d but 0, by ORDER. */
    List<int[]> below(int d) {
        List<int[]> all = new ArrayList<>();
        int n = 1;
        for (int i = 0; i < d; i++) n *= q;
        for (int code = 1; code < n; code++) {
            int[] a = new int[d];
            int rest = code;
            for (int k = 0; k < d; k++) { a[k] = rest % q; rest /= q; }
            all.add(trim(a));
        }
        return all;
    }

    /** Times a number behind (side 1) or ahead (side 0), so that LEADING is 1. */
    int[] monic(int[] a, int side) {
        for (int c = 1; c < q; c++) {
            int[] b = side == 0 ? scale(c, a) : mul(a, new int[] {c});
            if (lead(b) == 1) return b;
        }
        throw new IllegalArgumentException();
    }

    int[] gcd(int[] a, int[] b, int side) {
        while (deg(b) >= 0) {
            int[] r = divide(a, b, side)[1];
            a = b;
            b = r;
        }
        return monic(a, side);
    }

    boolean coprime(int[] a, int[] b) { return deg(gcd(a, b, 0)) == 0; }

    /**
     * The multiple by the numbers x of X in X a (or a X), so that b divides it: the X of least degree is found by
     * elimination over the digits (all of it is additive, and X of degree k tells p^(m(k+1)) of them).
     */
    int[] lcm(int[] a, int[] b, int side) {
        int n = deg(a) + deg(b) - deg(gcd(a, b, side));
        if (n > 8) return null;
        List<int[]> vectors = new ArrayList<>();
        List<int[]> origins = new ArrayList<>();
        for (int k = 0; k <= n - deg(a); k++) {
            for (int s = 0, unit = 1; s < m; s++, unit *= p) {
                int[] x = power(k, unit);
                int[] r = divide(side == 0 ? mul(x, a) : mul(a, x), b, side)[1];
                int[] v = flat(r, 8);
                int[] o = flat(x, 9);
                for (int i = 0; i < vectors.size(); i++) {
                    int[] w = vectors.get(i);
                    int pivot = 0;
                    while (w[pivot] == 0) pivot++;
                    while (v[pivot] != 0) {
                        for (int h = 0; h < v.length; h++) v[h] = (v[h] + w[h]) % p;
                        for (int h = 0; h < o.length; h++) o[h] = (o[h] + origins.get(i)[h]) % p;
                    }
                }
                boolean zero = true;
                for (int h : v) zero &= h == 0;
                if (zero) {
                    int[] x0 = unflat(o);
                    return monic(side == 0 ? mul(x0, a) : mul(a, x0), side);
                }
                vectors.add(v);
                origins.add(o);
            }
        }
        throw new IllegalStateException();
    }

    int[] flat(int[] a, int n) {
        int[] v = new int[n * m];
        for (int k = 0; k < n; k++) System.arraycopy(digits(at(a, k)), 0, v, k * m, m);
        return v;
    }

    int[] unflat(int[] v) {
        int[] a = new int[v.length / m];
        for (int k = 0; k < a.length; k++) a[k] = undigits(Arrays.copyOfRange(v, k * m, k * m + m));
        return trim(a);
    }

    int value(int[] a, int x) { return at(divide(a, trim(new int[] {neg(x), 1}), 0)[1], 0); }

    int does(int[] a, int x) {
        int sum = 0;
        for (int k = 0; k < a.length; k++) sum = add(sum, mul(a[k], frob(x, k)));
        return sum;
    }

    int roots(int[] a) {
        int bits = 0;
        for (int x = 0; x < q; x++) if (value(a, x) == 0) bits |= 1 << x;
        return bits;
    }

    /** Monic divisors of degree d at side 0, by ORDER: all are tried. */
    List<int[]> divisors(int[] a, int d) {
        List<int[]> found = new ArrayList<>();
        if (d > deg(a)) return found;
        for (int[] b : monics(d)) if (divides(b, a, 0)) found.add(b);
        return found;
    }

    boolean prime(int[] a) {
        for (int d = 1; d < deg(a); d++) if (!divisors(a, d).isEmpty()) return false;
        return deg(a) >= 1;
    }

    private static final TreeMap<String, Integer> waysKnown = new TreeMap<>();

    int ways(int[] a) {
        if (deg(a) <= 0) return 1;
        String key = kind + Arrays.toString(monic(a, 0));
        Integer known = waysKnown.get(key);
        if (known != null) return known;
        int sum = 0;
        for (int d = 1; d <= deg(a); d++) {
            List<int[]> all = d == deg(a) ? List.of(monic(a, 0)) : divisors(a, d);
            for (int[] b : all) if (prime(b)) sum += ways(divide(a, b, 0)[0]);
        }
        waysKnown.put(key, sum);
        return sum;
    }

    int[] way(int[] a, int[] b) {
        for (int[] u : below(deg(a))) if (divides(b, mul(a, u), 0) && coprime(u, b)) return u;
        return null;
    }

    boolean central(int[] a) {
        int[] w = {p};
        return Arrays.equals(mul(a, w), mul(w, a)) && Arrays.equals(mul(a, power(1, 1)), mul(power(1, 1), a));
    }

    /** All central monic ones of degree d m. */
    List<int[]> centrals(int d) {
        List<int[]> all = new ArrayList<>();
        int n = 1;
        for (int i = 0; i < d; i++) n *= p;
        for (int code = 0; code < n; code++) {
            int[] a = new int[d * m + 1];
            int rest = code;
            for (int k = 0; k < d; k++) { a[k * m] = rest % p; rest /= p; }
            a[d * m] = 1;
            all.add(a);
        }
        return all;
    }

    // ---- the face

    private boolean place(int... is) {
        for (int i : is) if (i < 0 || i > 5) return false;
        return true;
    }

    private int keep(int[] a, int k) {
        if (deg(a) > 8) return -3;
        places[k] = a;
        return deg(a);
    }

    private void tell(long... vs) {
        row.clear();
        for (long v : vs) row.add(v);
    }

    int field(int f) {
        if (f < 0 || f > 3) return -1;
        if (f == kind) return -2;
        become(f);
        return q;
    }

    int plus(int a, int b) { return has(a) && has(b) ? add(a, b) : -1; }

    int times(int a, int b) { return has(a) && has(b) ? mul(a, b) : -1; }

    int inverse(int a) { return !has(a) ? -1 : a == 0 ? -2 : inv(a); }

    int map(int a, int k) { return has(a) && k >= -8 && k <= 8 ? frob(a, k) : -1; }

    int norm(int a, int i) {
        if (!has(a) || i < 0 || i > 8) return -1;
        int r = 1;
        for (int k = 0; k < i; k++) r = mul(r, frob(a, k));
        return r;
    }

    private int conj(int a) {
        int bits = 0;
        for (int c = 1; c < q; c++) bits |= 1 << mul(mul(frob(c), a), inv(c));
        return bits;
    }

    int conjugates(int a) {
        if (!has(a)) return -1;
        tell(Integer.bitCount(conj(a)));
        return conj(a);
    }

    int classes() {
        TreeSet<Integer> sets = new TreeSet<>();
        row.clear();
        for (int a = 0; a < q; a++) if (sets.add(conj(a))) row.add((long) a);
        return sets.size();
    }

    int sign(int v) {
        if (text.length() > 36) return -1;
        for (int s = 24; s >= 0; s -= 8) text.append((char) (v >>> s & 255));
        return text.length();
    }

    boolean end(int n) {
        if (n < 0 || n > text.length()) return false;
        text.setLength(n);
        return true;
    }

    private static boolean isDigit(String s, int i) { return i < s.length() && s.charAt(i) >= '0' && s.charAt(i) <= '9'; }

    private int fault;

    /** Takes numbers with signs between them, as the grammar says; fault is the place of the first wrong sign, or -1. */
    private int[] numbers(String s, String between, int most) {
        List<Integer> found = new ArrayList<>();
        fault = -1;
        int i = 0;
        while (true) {
            int start = i;
            while (isDigit(s, i) && i < start + 3) i++;
            if (i == start) { fault = i; break; }
            if (i == start + 3) { fault = i - 1; break; }
            int v = Integer.parseInt(s.substring(start, i));
            if (v >= q) { fault = i - 1; break; }
            if (between.length() == 2 && found.size() % 2 == 0) {
                boolean there = false;
                for (int k = 0; k < found.size(); k += 2) there |= found.get(k) == v;
                if (there) { fault = i - 1; break; }
            }
            found.add(v);
            boolean mayEnd = between.length() == 1 || found.size() % 2 == 0;
            if (i == s.length() && mayEnd) break;
            char want = between.length() == 2 && found.size() % 2 == 1 ? ':' : ',';
            if (i == s.length() || s.charAt(i) != want || found.size() == most) { fault = i; break; }
            i++;
        }
        int[] a = new int[found.size()];
        for (int k = 0; k < a.length; k++) a[k] = found.get(k);
        return a;
    }

    int tells(int place) {
        int[] a = numbers(text.toString(), ",", 9);
        text.setLength(0);
        if (fault >= 0) return -21 - fault;
        if (!place(place)) return -100;
        return keep(trim(a), place);
    }

    int degree(int i) { return place(i) ? deg(places[i]) : -2; }

    int number(int i, int k) { return place(i) && k >= 0 && k <= 8 ? at(places[i], k) : -1; }

    int adds(int i, int j, int k) { return place(i, j, k) ? keep(add(places[i], places[j]), k) : -2; }

    int takes(int i, int j, int k) { return place(i, j, k) ? keep(sub(places[i], places[j]), k) : -2; }

    int scales(int a, int i, int k) { return place(i, k) && has(a) ? keep(scale(a, places[i]), k) : -2; }

    int multiplies(int i, int j, int k) { return place(i, j, k) ? keep(mul(places[i], places[j]), k) : -2; }

    private boolean side(int s) { return s == 0 || s == 1; }

    int quotient(int i, int j, int s, int k) {
        if (!place(i, j, k) || !side(s)) return -2;
        return deg(places[j]) < 0 ? -3 : keep(divide(places[i], places[j], s)[0], k);
    }

    int remainder(int i, int j, int s, int k) {
        if (!place(i, j, k) || !side(s)) return -2;
        return deg(places[j]) < 0 ? -3 : keep(divide(places[i], places[j], s)[1], k);
    }

    int divisor(int i, int j, int s, int k) {
        if (!place(i, j, k) || !side(s)) return -1;
        if (deg(places[i]) < 0 && deg(places[j]) < 0) return -2;
        return keep(gcd(places[i], places[j], s), k);
    }

    int multiple(int i, int j, int s, int k) {
        if (!place(i, j, k) || !side(s)) return -1;
        if (deg(places[i]) < 0 || deg(places[j]) < 0) return -2;
        int[] l = lcm(places[i], places[j], s);
        return l == null ? -3 : keep(l, k);
    }

    int steps(int i, int j, int s) {
        if (!place(i, j) || !side(s)) return -1;
        row.clear();
        int[] a = places[i], b = places[j];
        int n = 0;
        while (deg(b) >= 0) {
            int[] r = divide(a, b, s)[1];
            row.add((long) deg(r));
            a = b;
            b = r;
            n++;
        }
        return n;
    }

    int crosses(int i, int j, int k) {
        return place(i, j, k) ? keep(sub(mul(places[i], places[j]), mul(places[j], places[i])), k) : -2;
    }

    int maps(int i, int n, int k) {
        if (!place(i, k) || n < -8 || n > 8) return -2;
        int[] a = places[i].clone();
        for (int h = 0; h < a.length; h++) a[h] = frob(a[h], n);
        return keep(a, k);
    }

    int monic(int i) {
        if (!place(i)) return -1;
        if (deg(places[i]) < 0) return -2;
        int l = lead(places[i]);
        places[i] = monic(places[i], 0);
        return l;
    }

    int form(int i, int what) {
        if (!place(i) || what < 0 || what > 3) return -1;
        int[] a = places[i];
        int many = 0, least = -2;
        for (int k = deg(a); k >= 0; k--) if (a[k] != 0) { many++; least = k; }
        return new int[] {lead(a), many, least, Arrays.equals(a, new int[] {1}) ? 1 : 0}[what];
    }

    int same(int i, int j) {
        if (!place(i, j)) return -1;
        tell(Arrays.equals(mul(places[i], places[j]), mul(places[j], places[i])) ? 1 : 0);
        return Arrays.equals(places[i], places[j]) ? 1 : 0;
    }

    int power(int i, int n, int k) {
        if (!place(i, k) || n < 0 || n > 8) return -2;
        int[] a = {1};
        for (int h = 0; h < n; h++) a = mul(a, places[i]);
        return keep(a, k);
    }

    int turned(int c, int i, int k) {
        if (!place(i, k) || !has(c)) return -2;
        return c == 0 ? -3 : keep(mul(mul(new int[] {inv(c)}, places[i]), new int[] {c}), k);
    }

    int cofactors(int i, int j, int k, int l) {
        if (!place(i, j, k, l)) return -1;
        if (deg(places[i]) < 0 && deg(places[j]) < 0) return -2;
        if (k == l) return -3;
        int[][] a = {places[i], {1}, {}}, b = {places[j], {}, {1}};
        while (deg(b[0]) >= 0) {
            int[] quot = divide(a[0], b[0], 0)[0];
            int[][] c = new int[3][];
            for (int h = 0; h < 3; h++) c[h] = sub(a[h], mul(quot, b[h]));
            a = b;
            b = c;
        }
        int c = inv(lead(a[0]));
        places[k] = scale(c, a[1]);
        places[l] = scale(c, a[2]);
        return deg(a[0]);
    }

    int fits(int k) {
        int[] couples = numbers(text.toString(), ":,", 12);
        text.setLength(0);
        if (fault >= 0) return -21 - fault;
        if (!place(k)) return -100;
        int[] a = solve(couples);
        return a == null ? -3 : keep(a, k);
    }

    /** Least n for which the numbers a0 .. a(n - 1) solve the equations of the couples, by elimination. */
    private int[] solve(int[] couples) {
        int rows = couples.length / 2;
        for (int n = 0; n <= 9; n++) {
            int[][] e = new int[rows][n + 1];
            for (int r = 0; r < rows; r++) {
                for (int h = 0; h < n; h++) e[r][h] = norm(couples[2 * r], Math.min(h, 8));
                e[r][n] = couples[2 * r + 1];
            }
            int done = 0;
            int[] pivot = new int[rows];
            for (int h = 0; h < n && done < rows; h++) {
                int r = done;
                while (r < rows && e[r][h] == 0) r++;
                if (r == rows) continue;
                int[] swap = e[r]; e[r] = e[done]; e[done] = swap;
                int c = inv(e[done][h]);
                for (int x = 0; x <= n; x++) e[done][x] = mul(c, e[done][x]);
                for (int y = 0; y < rows; y++) {
                    int f = e[y][h];
                    if (y != done && f != 0) for (int x = 0; x <= n; x++) e[y][x] = sub(e[y][x], mul(f, e[done][x]));
                }
                pivot[done++] = h;
            }
            boolean fits = true;
            for (int r = done; r < rows; r++) fits &= e[r][n] == 0;
            if (fits) {
                int[] a = new int[n];
                for (int r = 0; r < done; r++) a[pivot[r]] = e[r][n];
                return trim(a);
            }
        }
        return null;
    }

    int value(int i, int a) { return place(i) && has(a) ? value(places[i], a) : -1; }

    int roots(int i) {
        if (!place(i)) return -1;
        tell(Integer.bitCount(roots(places[i])));
        return roots(places[i]);
    }

    int does(int i, int x) { return place(i) && has(x) ? does(places[i], x) : -1; }

    private int to(int[] a, int v) {
        int bits = 0;
        for (int x = 0; x < q; x++) if (does(a, x) == v) bits |= 1 << x;
        return bits;
    }

    int kernel(int i) {
        if (!place(i)) return -1;
        TreeSet<Integer> seen = new TreeSet<>();
        for (int x = 0; x < q; x++) seen.add(does(places[i], x));
        tell(Integer.bitCount(to(places[i], 0)), seen.size());
        return to(places[i], 0);
    }

    int solves(int i, int v) {
        if (!place(i) || !has(v)) return -1;
        tell(Integer.bitCount(to(places[i], v)));
        return to(places[i], v);
    }

    int reaches(int i) {
        if (!place(i)) return -1;
        if (deg(places[i]) < 0) return -2;
        int[] power = divide(new int[] {1}, places[i], 0)[1];
        int[] one = power;
        for (int n = 1; n <= 300; n++) {
            power = divide(t(power), places[i], 0)[1];
            if (Arrays.equals(power, one)) return n;
        }
        return -3;
    }

    private boolean set(int s) { return s >= 0 && s < 1 << q; }

    /** The degree of what is 0 on a set is the rank of the rows of norms. */
    private int rank(int set) {
        List<int[]> rows = new ArrayList<>();
        for (int a = 0; a < q; a++) {
            if ((set >> a & 1) == 0) continue;
            int[] r = new int[9];
            for (int k = 0; k < 9; k++) r[k] = norm(a, k);
            for (int[] o : rows) {
                int h = 0;
                while (o[h] == 0) h++;
                int f = mul(r[h], inv(o[h]));
                for (int x = 0; x < 9; x++) r[x] = sub(r[x], mul(f, o[x]));
            }
            boolean zero = true;
            for (int v : r) zero &= v == 0;
            if (!zero) rows.add(r);
        }
        return rows.size();
    }

    int basis(int s) {
        if (!set(s)) return -1;
        int taken = 0;
        for (int a = 0; a < q; a++) if ((s >> a & 1) == 1 && rank(taken | 1 << a) > rank(taken)) taken |= 1 << a;
        tell(taken);
        return Integer.bitCount(taken);
    }

    int shares(int i, int j) {
        if (!place(i, j)) return -1;
        int a = roots(places[i]), b = roots(places[j]);
        tell(a & ~b, b & ~a);
        return a & b;
    }

    int eigen(int i) {
        if (!place(i)) return -1;
        int bits = 0;
        row.clear();
        for (int a = 0; a < q; a++) {
            for (int x = 1; x < q; x++) {
                if (does(places[i], x) == mul(a, x)) {
                    bits |= 1 << a;
                    row.add((long) x);
                    break;
                }
            }
        }
        return bits;
    }

    int vanishes(int s, int k) {
        if (!place(k) || !set(s)) return -1;
        int[] a = {1};
        for (int x = 0; x < q; x++) if ((s >> x & 1) == 1) a = lcm(a, trim(new int[] {neg(x), 1}), 0);
        if (deg(a) != rank(s)) throw new IllegalStateException();
        places[k] = a;
        tell(roots(a));
        return deg(a);
    }

    private int refusal(int i) {
        if (!place(i)) return -1;
        return deg(places[i]) < 0 ? -2 : deg(places[i]) > 4 ? -3 : 0;
    }

    int divisors(int i, int d) {
        if (d < 1 || d > 3) return -1;
        if (refusal(i) < 0) return refusal(i);
        List<int[]> all = divisors(places[i], d);
        row.clear();
        if (!all.isEmpty()) for (int v : all.get(0)) row.add((long) v);
        return all.size();
    }

    int prime(int i) { return refusal(i) < 0 ? refusal(i) : prime(places[i]) ? 1 : 0; }

    int factors(int i) {
        if (refusal(i) < 0) return refusal(i);
        factors.clear();
        int[] left = places[i];
        row.clear();
        while (deg(left) > 0) {
            int[] last = null;
            for (int d = 1; d <= deg(left) && last == null; d++) {
                List<int[]> all = d == deg(left) ? List.of(monic(left, 0)) : divisors(left, d);
                for (int[] b : all) if (last == null && prime(b)) last = b;
            }
            factors.add(0, last);
            left = divide(left, last, 0)[0];
        }
        row.add((long) lead(places[i]));
        for (int[] f : factors) row.add((long) deg(f));
        return factors.size();
    }

    /** NONE stands for what throws. */
    int factor(int j, int k) {
        return j < 1 || j > factors.size() || k < 0 || k > deg(factors.get(j - 1)) ? -1 : factors.get(j - 1)[k];
    }

    int ways(int i) { return refusal(i) < 0 ? refusal(i) : ways(places[i]); }

    int likes(int i) {
        if (refusal(i) < 0) return refusal(i);
        int n = deg(places[i]);
        if (n < 1 || n > 2) return -3;
        int many = 0;
        for (int[] b : monics(n)) if (way(places[i], b) != null) many++;
        return many;
    }

    int like(int i, int j) {
        if (!place(i, j)) return -1;
        if (refusal(i) == -2 || refusal(j) == -2) return -2;
        if (refusal(i) == -3 || refusal(j) == -3) return -3;
        int n = deg(places[i]);
        if (n != deg(places[j]) || n == 0) return -4;
        int[] u = way(places[i], places[j]);
        row.clear();
        for (int k = 0; k < n && u != null; k++) row.add((long) at(u, k));
        return u == null ? 0 : 1;
    }

    int commuting(int i) {
        if (refusal(i) < 0) return refusal(i);
        int[] a = places[i];
        if (deg(a) < 1 || deg(a) > 3) return -3;
        int many = 1, units = 0;
        for (int[] u : below(deg(a))) {
            if (divides(a, mul(a, u), 0)) {
                many++;
                if (coprime(u, a)) units++;
            }
        }
        tell(units);
        return many;
    }

    int central(int i) { return place(i) ? central(places[i]) ? 1 : 0 : -1; }

    int bound(int i) {
        if (!place(i)) return -1;
        if (deg(places[i]) < 0) return -2;
        for (int d = 0;; d++) {
            for (int[] c : centrals(d)) {
                if (divides(places[i], c, 0)) {
                    row.clear();
                    for (int k = 0; k <= d; k++) row.add((long) c[k * m]);
                    return d;
                }
            }
        }
    }

    int part(int i, int k) {
        if (!place(i, k)) return -1;
        if (refusal(i) < 0) return refusal(i);
        for (int d = deg(places[i]) / m; d >= 0; d--) {
            for (int[] c : centrals(d)) if (divides(c, places[i], 0)) return keep(c, k);
        }
        throw new IllegalStateException();
    }

    int primes(int d) {
        if (d < 1 || d > 2) return -1;
        int many = 0;
        for (int[] a : monics(d)) if (prime(a)) many++;
        return many;
    }

    int count(int what) {
        int used = 0;
        for (int i = 0; i < 6; i++) if (deg(places[i]) >= 0) used |= 1 << i;
        int[] all = {kind, q, p, m, used, factors.size(), row.size(), text.length()};
        return what < 0 || what >= all.length ? -1 : all[what];
    }
}
