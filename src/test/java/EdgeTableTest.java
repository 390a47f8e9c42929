import java.util.ArrayList;
import java.util.List;

/**
 * Terms 1 and 2, for each call of the face: every argument just inside and just outside its bounds, what a refused call
 * leaves as it was, what an accepted one changes, and a PLACE that is told anew and asked, too.
 */
public final class EdgeTableTest {
    private static final Due due = new Due();
    private static final int[] Q = {4, 8, 9, 16};
    private static final int NONE = -1;

    private interface Ask {
        long on(SkewRings x, int[] a);
    }

    /** What an argument is, its bounds, and one with which the call is not refused. */
    private record Arg(String kind, int low, int high, int usual) {
    }

    /** A call with what it answers of an argument out of bounds, and what it may change. */
    private record Call(String name, long refusal, int changes, Ask ask, Arg... args) {
        int[] usual() {
            int[] a = new int[args.length];
            for (int i = 0; i < a.length; i++) a[i] = args[i].usual;
            return a;
        }

        String with(int f, int[] a) {
            StringBuilder s = new StringBuilder("FIELD " + f + ", " + name + "(");
            for (int i = 0; i < a.length; i++) s.append(i > 0 ? ", " : "").append(a[i]);
            return s.append(")").toString();
        }
    }

    private static Arg number(int f, int usual) {
        return new Arg("NUMBER", 0, Q[f] - 1, usual);
    }

    private static Arg place(int usual) {
        return new Arg("PLACE", 0, 5, usual);
    }

    private static Arg side() {
        return new Arg("SIDE", 0, 1, 1);
    }

    private static Arg set(int f, int usual) {
        return new Arg("set", 0, (1 << Q[f]) - 1, usual);
    }

    private static Arg from(int low, int high, int usual) {
        return new Arg("value", low, high, usual);
    }

    public static void main(String[] args) {
        for (int f = 0; f < 4; f++) {
            for (Call call : calls(f)) {
                bounds(f, call);
                twoWrong(f, call);
                changes(f, call);
            }
            readers(f);
        }
        inPlace();
        due.finish("EdgeTableTest");
    }

    private static List<Call> calls(int f) {
        List<Call> all = new ArrayList<>();
        numbers(all, f);
        sums(all, f);
        divisions(all);
        forms(all, f);
        values(all, f);
        factors(all);
        return all;
    }

    private static void numbers(List<Call> all, int f) {
        all.add(new Call("P2 field", NONE, Scene.PLACES | Scene.FIELD | Scene.FACTORS, (x, a) -> x.field(a[0]), from(0, 3, (f + 1) % 4)));
        all.add(new Call("P3 plus", NONE, 0, (x, a) -> x.plus(a[0], a[1]), number(f, 2), number(f, 3)));
        all.add(new Call("P4 times", NONE, 0, (x, a) -> x.times(a[0], a[1]), number(f, 2), number(f, 3)));
        all.add(new Call("P5 inverse", NONE, 0, (x, a) -> x.inverse(a[0]), number(f, 2)));
        all.add(new Call("P6 map", NONE, 0, (x, a) -> x.map(a[0], a[1]), number(f, 2), from(-8, 8, 1)));
        all.add(new Call("P7 norm", NONE, 0, (x, a) -> x.norm(a[0], a[1]), number(f, 2), from(0, 8, 2)));
        all.add(new Call("P8 conjugates", NONE, Scene.ROW, (x, a) -> x.conjugates(a[0]), number(f, 2)));
        all.add(new Call("P9 classes", NONE, Scene.ROW, (x, a) -> x.classes()));
        all.add(new Call("P11 end", Scene.FALSE, Scene.TEXT, (x, a) -> x.end(a[0]) ? 1 : 0, from(0, 3, 1)));
    }

    private static void sums(List<Call> all, int f) {
        int k = 1 << 3;
        all.add(new Call("P13 degree", -2, 0, (x, a) -> x.degree(a[0]), place(2)));
        all.add(new Call("P14 number", NONE, 0, (x, a) -> x.number(a[0], a[1]), place(2), from(0, 8, 4)));
        all.add(new Call("P15 adds", -2, k, (x, a) -> x.adds(a[0], a[1], a[2]), place(0), place(5), place(3)));
        all.add(new Call("P16 takes", -2, k, (x, a) -> x.takes(a[0], a[1], a[2]), place(0), place(5), place(3)));
        all.add(new Call("P17 scales", -2, k, (x, a) -> x.scales(a[0], a[1], a[2]), number(f, 2), place(5), place(3)));
        all.add(new Call("P18 multiplies", -2, k, (x, a) -> x.multiplies(a[0], a[1], a[2]), place(0), place(5), place(3)));
        all.add(new Call("P24 crosses", -2, k, (x, a) -> x.crosses(a[0], a[1], a[2]), place(0), place(5), place(3)));
        all.add(new Call("P25 maps", -2, k, (x, a) -> x.maps(a[0], a[1], a[2]), place(5), from(-8, 8, 1), place(3)));
        all.add(new Call("P29 power", -2, k, (x, a) -> x.power(a[0], a[1], a[2]), place(0), from(0, 8, 3), place(3)));
        all.add(new Call("P30 turned", -2, k, (x, a) -> x.turned(a[0], a[1], a[2]), number(f, 2), place(5), place(3)));
    }

    private static void divisions(List<Call> all) {
        int k = 1 << 3;
        all.add(new Call("P19 quotient", -2, k, (x, a) -> x.quotient(a[0], a[1], a[2], a[3]), place(2), place(5), side(), place(3)));
        all.add(new Call("P20 remainder", -2, k, (x, a) -> x.remainder(a[0], a[1], a[2], a[3]), place(2), place(5), side(), place(3)));
        all.add(new Call("P21 divisor", NONE, k, (x, a) -> x.divisor(a[0], a[1], a[2], a[3]), place(2), place(5), side(), place(3)));
        all.add(new Call("P22 multiple", NONE, k, (x, a) -> x.multiple(a[0], a[1], a[2], a[3]), place(0), place(5), side(), place(3)));
        all.add(new Call("P23 steps", NONE, Scene.ROW, (x, a) -> x.steps(a[0], a[1], a[2]), place(2), place(5), side()));
        all.add(new Call("P31 cofactors", NONE, k | 1 << 4, (x, a) -> x.cofactors(a[0], a[1], a[2], a[3]), place(2), place(5), place(3), place(4)));
    }

    private static void forms(List<Call> all, int f) {
        all.add(new Call("P26 monic", NONE, 1 << 5, (x, a) -> x.monic(a[0]), place(5)));
        all.add(new Call("P27 form", NONE, 0, (x, a) -> x.form(a[0], a[1]), place(2), from(0, 3, 1)));
        all.add(new Call("P28 same", NONE, Scene.ROW, (x, a) -> x.same(a[0], a[1]), place(0), place(5)));
        all.add(new Call("P55 count", NONE, 0, (x, a) -> x.count(a[0]), from(0, 7, 1)));
        all.add(new Call("P56 row", Scene.THROWS, 0, (x, a) -> Due.rowAt(x, a[0]), from(0, f == 2 ? 2 : 1, 1)));
    }

    private static void values(List<Call> all, int f) {
        all.add(new Call("P33 value", NONE, 0, (x, a) -> x.value(a[0], a[1]), place(2), number(f, 2)));
        all.add(new Call("P34 roots", NONE, Scene.ROW, (x, a) -> x.roots(a[0]), place(1)));
        all.add(new Call("P35 does", NONE, 0, (x, a) -> x.does(a[0], a[1]), place(2), number(f, 2)));
        all.add(new Call("P36 kernel", NONE, Scene.ROW, (x, a) -> x.kernel(a[0]), place(1)));
        all.add(new Call("P37 solves", NONE, Scene.ROW, (x, a) -> x.solves(a[0], a[1]), place(2), number(f, 2)));
        all.add(new Call("P38 reaches", NONE, 0, (x, a) -> x.reaches(a[0]), place(1)));
        all.add(new Call("P39 basis", NONE, Scene.ROW, (x, a) -> x.basis(a[0]), set(f, 7)));
        all.add(new Call("P40 shares", NONE, Scene.ROW, (x, a) -> x.shares(a[0], a[1]), place(0), place(1)));
        all.add(new Call("P41 eigen", NONE, Scene.ROW, (x, a) -> x.eigen(a[0]), place(1)));
        all.add(new Call("P42 vanishes", NONE, 1 << 3 | Scene.ROW, (x, a) -> x.vanishes(a[0], a[1]), set(f, 7), place(3)));
    }

    private static void factors(List<Call> all) {
        all.add(new Call("P43 divisors", NONE, Scene.ROW, (x, a) -> x.divisors(a[0], a[1]), place(1), from(1, 3, 1)));
        all.add(new Call("P44 prime", NONE, 0, (x, a) -> x.prime(a[0]), place(1)));
        all.add(new Call("P45 factors", NONE, Scene.ROW | Scene.FACTORS, (x, a) -> x.factors(a[0]), place(5)));
        all.add(new Call("P46 factor", Scene.THROWS, 0, (x, a) -> Due.factorAt(x, a[0], a[1]), from(1, 2, 1), from(0, 1, 0)));
        all.add(new Call("P47 ways", NONE, 0, (x, a) -> x.ways(a[0]), place(1)));
        all.add(new Call("P48 likes", NONE, 0, (x, a) -> x.likes(a[0]), place(1)));
        all.add(new Call("P49 like", NONE, Scene.ROW, (x, a) -> x.like(a[0], a[1]), place(1), place(1)));
        all.add(new Call("P50 commuting", NONE, Scene.ROW, (x, a) -> x.commuting(a[0]), place(1)));
        all.add(new Call("P51 central", NONE, 0, (x, a) -> x.central(a[0]), place(1)));
        all.add(new Call("P52 bound", NONE, Scene.ROW, (x, a) -> x.bound(a[0]), place(2)));
        all.add(new Call("P53 part", NONE, 1 << 3, (x, a) -> x.part(a[0], a[1]), place(1), place(3)));
        all.add(new Call("P54 primes", NONE, 0, (x, a) -> x.primes(a[0]), from(1, 2, 2)));
    }

    /** "NONE: no such FIELD, NUMBER, PLACE, SIDE, where nothing else is told for that"; "change nothing but THE TEXT". */
    private static void bounds(int f, Call call) {
        for (int i = 0; i < call.args.length; i++) {
            Arg arg = call.args[i];
            int[] a = call.usual();
            for (int inside : new int[] {arg.low, arg.high}) {
                a[i] = inside;
                SkewRings x = Scene.usual(f).make();
                due.holds(call.with(f, a) + " has such a " + arg.kind, call.ask.on(x, a) != call.refusal);
            }
            for (int outside : new int[] {arg.low - 1, arg.high + 1, Integer.MIN_VALUE, Integer.MAX_VALUE}) {
                a[i] = outside;
                Scene.refused(due, call.with(f, a) + " has no such " + arg.kind, Scene.usual(f), x -> call.ask.on(x, a), call.refusal);
            }
        }
    }

    private static void twoWrong(int f, Call call) {
        for (int i = 0; i < call.args.length; i++) {
            for (int j = i + 1; j < call.args.length; j++) {
                int[] a = call.usual();
                a[i] = call.args[i].high + 1;
                a[j] = call.args[j].low - 1;
                due.is(call.with(f, a) + " two wrong", call.ask.on(Scene.usual(f).make(), a), call.refusal);
            }
        }
    }

    /** "Calls that ask change nothing but the ROW"; "The ROW stays .. with calls that do not tell of it". */
    private static void changes(int f, Call call) {
        int[] a = call.usual();
        SkewRings x = Scene.usual(f).make();
        SkewRings twin = Scene.usual(f).make();
        due.holds(call.with(f, a) + " is not refused", call.ask.on(x, a) != call.refusal);
        Scene.unchanged(due, call.with(f, a), x, twin, call.changes);
    }

    /** "THE TEXT, which a call that reads it empties": also where that call is refused. */
    private static void readers(int f) {
        for (int k : new int[] {-1, 6, Integer.MIN_VALUE, Integer.MAX_VALUE}) {
            Scene.refusedReading(due, "P12 '-100: no such PLACE' " + k, Scene.usual(f), x -> x.tells(k), -100);
            Scene.refusedReading(due, "P32 '-100: no such PLACE' " + k, Scene.told(f, "1:2,2:1", "2,1", "1,0,1"), x -> x.fits(k), -100);
        }
        for (int k : new int[] {0, 5}) {
            Scene.accepted(due, "P12 PLACE " + k, Scene.usual(f), x -> x.tells(k), 1, Scene.TEXT | 1 << k);
            Scene.accepted(due, "P32 PLACE " + k, Scene.told(f, "1:2", "2,1"), x -> x.fits(k), 0, Scene.TEXT | 1 << k);
        }
        Scene.refusedReading(due, "P12 '-21 - p'", Scene.told(f, "1;2", "2,1"), x -> x.tells(0), -22);
        Scene.refusedReading(due, "P32 '-21 - p'", Scene.told(f, "1:2;", "2,1"), x -> x.fits(0), -24);
        Scene.accepted(due, "P10 sign", Scene.usual(f), x -> x.sign(0x2C332C31), 7, Scene.TEXT);
    }

    private interface ToPlace {
        int on(SkewRings x, int i, int j, int k);
    }

    /** "A PLACE that is told anew may be one of those that are asked." */
    private static void inPlace() {
        for (int f = 0; f < 4; f++) {
            over(f, "P15 adds", SkewRings::adds);
            over(f, "P16 takes", SkewRings::takes);
            over(f, "P17 scales", (x, i, j, k) -> x.scales(2, i, k));
            over(f, "P18 multiplies", SkewRings::multiplies);
            for (int side = 0; side < 2; side++) {
                int s = side;
                over(f, "P19 quotient at " + s, (x, i, j, k) -> x.quotient(i, j, s, k));
                over(f, "P20 remainder at " + s, (x, i, j, k) -> x.remainder(i, j, s, k));
                over(f, "P21 divisor at " + s, (x, i, j, k) -> x.divisor(i, j, s, k));
                over(f, "P22 multiple at " + s, (x, i, j, k) -> x.multiple(i, j, s, k));
            }
            over(f, "P24 crosses", SkewRings::crosses);
            over(f, "P25 maps", (x, i, j, k) -> x.maps(i, 1, k));
            over(f, "P29 power", (x, i, j, k) -> x.power(i, 2, k));
            over(f, "P30 turned", (x, i, j, k) -> x.turned(3, i, k));
            over(f, "P53 part", (x, i, j, k) -> x.part(i, k));
            twoOver(f);
        }
    }

    private static void over(int f, String name, ToPlace call) {
        String[][] pairs = {{"3,1,0,2", "2,3"}, {"2,3", "3,1,0,2"}, {"0,2,0,1,3", "1,2,1"}, {"3", "1,2,1"}, {"3,1,1,2", "0"}};
        for (String[] pair : pairs) {
            for (int j = 0; j < 2; j++) {
                SkewRings aside = Due.fresh(f, pair);
                int answer = call.on(aside, 0, j, 3);
                for (int k = 0; k < 2; k++) {
                    SkewRings x = Due.fresh(f, pair);
                    String what = "FIELD " + f + ", " + name + " of " + pair[0] + " and " + pair[j] + " over PLACE " + k;
                    due.is(what, call.on(x, 0, j, k), answer);
                    due.place(what, x, k, answer < -1 ? Due.at(aside, k) : Due.at(aside, 3));
                    due.place(what + ": the other one", x, 1 - k, Due.at(aside, 1 - k));
                }
            }
        }
    }

    private static void twoOver(int f) {
        String[] pair = {"3,1,0,2", "2,3,1"};
        SkewRings aside = Due.fresh(f, pair);
        int answer = aside.cofactors(0, 1, 3, 4);
        for (int k = 0; k < 2; k++) {
            SkewRings x = Due.fresh(f, pair);
            due.is("FIELD " + f + ", P31 cofactors over PLACES " + k + " and " + (1 - k), x.cofactors(0, 1, k, 1 - k), answer);
            due.place("P31 the second", x, k, Due.at(aside, 3));
            due.place("P31 the third", x, 1 - k, Due.at(aside, 4));
        }
    }
}
