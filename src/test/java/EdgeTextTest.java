/** Promises 10 to 12, and what promise 32 says of THE TEXT: each boundary on both sides of it. */
public final class EdgeTextTest {
    private static final Due due = new Due();
    private static final int[] Q = {4, 8, 9, 16};

    public static void main(String[] args) {
        forty();
        bytes();
        ends();
        howManyNumbers();
        digits();
        greatestNumbers();
        howManyCouples();
        numbersOfCouples();
        pointsThere();
        longestTexts();
        degreesTold();
        due.finish("EdgeTextTest");
    }

    private static String times(String s, int n) {
        StringBuilder b = new StringBuilder();
        for (int i = 0; i < n; i++) b.append(s);
        return b.toString();
    }

    /** "how many it has. Refused: there would be more than 40." */
    private static void forty() {
        SkewRings x = new SkewRings();
        for (int n = 4; n <= 40; n += 4) due.is("P10 from none to 40", x.sign(0x2C2C2C2C), n);
        for (int signs = 0; signs <= 40; signs++) {
            Scene.Maker maker = Scene.told(0, times("7", signs), "2,1");
            if (signs <= 36) {
                SkewRings y = Scene.accepted(due, "P10 behind " + signs, maker, z -> z.sign(0x31323334), signs + 4, Scene.TEXT);
                due.is("P10 so many now", y.count(7), signs + 4);
            } else {
                Scene.refused(due, "P10 behind " + signs, maker, z -> z.sign(0x31323334), -1);
                SkewRings y = maker.make();
                y.sign(0);
                due.is("P10 refused: so many as before", y.count(7), signs);
            }
        }
        SkewRings full = Scene.told(0, times("1", 40)).make();
        due.is("P10 refused at 40", full.sign(0), -1);
        due.holds("P11 40 signs: end(40)", full.end(40));
        due.holds("P11 40 signs: end(41)", !full.end(41));
        due.holds("P11 room again", full.end(36));
        due.is("P10 room again", full.sign(0), 40);
    }

    /** "of v the highest byte first" */
    private static void bytes() {
        SkewRings x = new SkewRings();
        x.sign(0x312C3032);
        due.is("P10 1,02", x.tells(0), 1);
        due.place("P10 the highest byte first", x, 0, "1,2");
        for (int v : new int[] {0, -1, Integer.MIN_VALUE, Integer.MAX_VALUE, 0x31000000, 0x00000031}) {
            Scene.accepted(due, "P10 v " + v, Scene.told(1, "", "2,1"), y -> y.sign(v), 4, Scene.TEXT);
        }
        for (int k = 0; k < 4; k++) {
            SkewRings y = new SkewRings();
            y.sign(0x312C3032 | 0xFF << 8 * k);
            due.is("P10 a sign 255 in byte " + k, y.tells(0), -21 - (3 - k));
        }
        SkewRings z = new SkewRings();
        z.sign(0x312C312C);
        z.sign(0x32000000);
        z.end(5);
        due.is("P10 they come behind THE TEXT", z.tells(0), 2);
        due.place("P10 they come behind THE TEXT", z, 0, "1,1,2");
    }

    /** "true; false if it has not so many, or n is below 0" */
    private static void ends() {
        for (int signs : new int[] {0, 1, 4, 39, 40}) {
            Scene.Maker maker = Scene.told(0, times("1", signs), "2,1");
            for (int n : new int[] {signs + 1, signs + 4, Integer.MAX_VALUE, -1, -signs, Integer.MIN_VALUE}) {
                if (n == 0) continue;
                Scene.refused(due, "P11 end(" + n + ") of " + signs, maker, x -> x.end(n) ? 1 : 0, Scene.FALSE);
                SkewRings y = maker.make();
                y.end(n);
                due.is("P11 false: as many as before", y.count(7), signs);
            }
            for (int n : new int[] {0, signs / 2, signs}) {
                SkewRings y = Scene.accepted(due, "P11 end(" + n + ") of " + signs, maker, x -> x.end(n) ? 1 : 0, Scene.TRUE, Scene.TEXT);
                due.is("P11 so many", y.count(7), n);
            }
            Scene.accepted(due, "P11 all of " + signs + ": nothing is changed", maker, x -> x.end(signs) ? 1 : 0, Scene.TRUE, 0);
        }
        SkewRings x = Scene.told(0, "1,2,3").make();
        x.end(3);
        due.is("P11 its first n signs alone", x.tells(0), 1);
        due.place("P11 its first n signs alone", x, 0, "1,2");
    }

    /** "1 .. 9 NUMBERS"; "a tenth NUMBER: the , ahead of it" */
    private static void howManyNumbers() {
        for (int n = 1; n <= 9; n++) {
            String s = times("0,", n - 1) + "1";
            Scene.accepted(due, "P12 " + n + " NUMBERS", Scene.told(0, s, "2,1", "1,1,1,1,1,1,1,1,1"), x -> x.tells(1), n - 1,
                1 << 1 | Scene.TEXT);
            String zero = times("0,", n - 1) + "0";
            SkewRings y = Scene.accepted(due, "P12 " + n + " NUMBERS 0", Scene.told(0, zero, "2,1"), x -> x.tells(0), -1, 1 | Scene.TEXT);
            due.place("P12 NUMBERS 0", y, 0, "0");
        }
        refused(0, "", 0);
        refused(0, times("0,", 9) + "0", 17);
        refused(0, times("0,", 9), 17);
        refused(0, times("0,", 9) + "9", 17);
        refused(0, times("00,", 9) + "0", 26);
        refused(0, times("0,", 8) + "4,0", 16);
        refused(0, times("0,", 8) + "000,0", 18);
        refused(0, times("0,", 12), 17);
    }

    private static void refused(int f, String s, int p) {
        Scene.refusedReading(due, "P12 FIELD " + f + " '" + s + "'", Scene.told(f, s, "2,1", "3"), x -> x.tells(1), -21 - p);
        Scene.refusedReading(due, "P12 FIELD " + f + " '" + s + "' ahead of no PLACE", Scene.told(f, s, "2,1"), x -> x.tells(6), -21 - p);
    }

    private static void told(int f, String s, String has) {
        SkewRings x = Scene.told(f, s, "2,1").make();
        x.tells(1);
        due.place("P12 FIELD " + f + " '" + s + "'", x, 1, has);
        due.is("P12 '" + s + "' is read: THE TEXT is empty", x.count(7), 0);
    }

    /** "(one or two digits each)"; "a third digit, ahead of this" */
    private static void digits() {
        for (int f = 0; f < 4; f++) {
            told(f, "3", "3");
            told(f, "03", "3");
            told(f, "00", "0");
            told(f, "03,02,01,00", "3,2,1");
            refused(f, "003", 2);
            refused(f, "000", 2);
            refused(f, "1,000", 4);
            refused(f, "1,0000", 4);
            refused(f, "999", 2);
            refused(f, "160", 2);
            refused(f, "99,", 1);
            refused(f, "1.", 1);
            refused(f, "1,,", 2);
            refused(f, ",", 0);
            refused(f, "1,2,", 4);
            refused(f, "1, ", 2);
            refused(f, "01 ", 2);
            refused(f, "+1", 0);
        }
        told(3, "15", "15");
        told(3, "10,11", "10,11");
        told(3, "09", "9");
    }

    /** "-21 - p (of a NUMBER that is q or more, as it is told whole, its last digit: 70 the 0" */
    private static void greatestNumbers() {
        for (int f = 0; f < 4; f++) {
            String last = "" + (Q[f] - 1);
            String none = "" + Q[f];
            told(f, last, last);
            told(f, "0," + last, "0," + last);
            refused(f, none, none.length() - 1);
            refused(f, "1," + none, 1 + none.length());
            refused(f, none + ",1", none.length() - 1);
            refused(f, none + "x", none.length() - 1);
            refused(f, "70", 1);
            refused(f, "1,70,2", 3);
            refused(f, "99", 1);
            if (f < 3) told(f, "0" + last, last);
            if (f < 3) refused(f, "0" + none, 1);
        }
    }

    private static void fits(int f, String s, int degree) {
        Scene.Maker maker = Scene.told(f, s, "2,1", "1,1,1,1,1,1,1,1,1");
        SkewRings x = Scene.accepted(due, "P32 FIELD " + f + " '" + s + "'", maker, y -> y.fits(1), degree, 1 << 1 | Scene.TEXT);
        due.is("P32 '" + s + "' is read: THE TEXT is empty", x.count(7), 0);
        due.is("P32 '" + s + "': DEGREE", x.degree(1), degree);
    }

    private static void wrong(int f, String s, int p) {
        Scene.refusedReading(due, "P32 FIELD " + f + " '" + s + "'", Scene.told(f, s, "2,1", "3"), x -> x.fits(1), -21 - p);
        Scene.refusedReading(due, "P32 FIELD " + f + " '" + s + "' ahead of no PLACE", Scene.told(f, s, "2,1"), x -> x.fits(6), -21 - p);
    }

    /** "1 .. 6 couples a : v .. with , between, without blanks" */
    private static void howManyCouples() {
        fits(0, "0:0", -1);
        fits(0, "0:3", 0);
        StringBuilder s = new StringBuilder();
        for (int n = 0; n < 6; n++) {
            s.append(n > 0 ? "," : "").append(n).append(":2");
            fits(3, s.toString(), 0);
            fits(1, s.toString(), 0);
            if (n < 4) fits(0, s.toString(), 0);
        }
        wrong(3, s + ",6:2", 23);
        wrong(3, s + ",", 23);
        wrong(3, s + ",6", 23);
        wrong(3, s + ",0:1", 23);
        wrong(1, s + ",6:2", 23);
        wrong(0, "", 0);
        wrong(0, "0:0,1:1,2:2,3:3,4:0", 16);
        wrong(0, "1:1 ", 3);
        wrong(0, " 1:1", 0);
        wrong(0, "1 :1", 1);
        wrong(0, "1: 1", 2);
        wrong(0, "1:1, 2:1", 4);
        wrong(0, "1:1;2:1", 3);
        wrong(0, "1:1:2", 3);
        wrong(0, "1,1", 1);
        wrong(0, "1:,2", 2);
        wrong(0, ":1", 0);
    }

    /** "NUMBERS, one or two digits each"; "-21 - p (as tells()" */
    private static void numbersOfCouples() {
        for (int f = 0; f < 4; f++) {
            String last = "" + (Q[f] - 1);
            String none = "" + Q[f];
            fits(f, last + ":" + last, 0);
            fits(f, "01:02", 0);
            wrong(f, none + ":1", none.length() - 1);
            wrong(f, "1:" + none, 1 + none.length());
            wrong(f, "1:" + none + ",2:1", 1 + none.length());
            wrong(f, "70:1", 1);
            wrong(f, "1:70", 3);
            wrong(f, "001:1", 2);
            wrong(f, "1:001", 4);
            wrong(f, "1:1,002:1", 6);
            wrong(f, "1:1,2:003", 8);
        }
    }

    /** "a NUMBER a that is there already: its last digit" */
    private static void pointsThere() {
        for (int f = 0; f < 4; f++) {
            fits(f, "1:2,2:2", 0);
            wrong(f, "1:2,1:2", 4);
            wrong(f, "1:2,01:2", 5);
            wrong(f, "01:2,1:2", 5);
            wrong(f, "0:2,00:2", 5);
            wrong(f, "1:2,2:2,3:2,2:1", 12);
            wrong(f, "1:2,1", 4);
            wrong(f, "1:2,1x", 4);
            wrong(f, "1:2,1:x", 4);
            wrong(f, "1:2,001", 6);
        }
        fits(3, "1:2,11:2", 0);
        fits(3, "11:2,1:2", 0);
        wrong(3, "11:2,11:2", 6);
        wrong(3, "0:2,10:2,11:2,12:2,13:2,10:2", 25);
    }

    /** The longest of what is told: 26 signs, and 35. */
    private static void longestTexts() {
        told(3, "15,14,13,12,11,10,09,08,07", "15,14,13,12,11,10,9,8,7");
        refused(3, "15,14,13,12,11,10,09,08,070", 26);
        refused(3, "15,14,13,12,11,10,09,08,07,", 26);
        fits(3, "10:03,11:03,12:03,13:03,14:03,15:03", 0);
        wrong(3, "10:03,11:03,12:03,13:03,14:03,15:030", 35);
        wrong(3, "10:03,11:03,12:03,13:03,14:03,15:16", 34);
        wrong(3, "10:03,11:03,12:03,13:03,14:03,15:03,01:3", 35);
        SkewRings x = Scene.told(3, times(" ", 40)).make();
        due.is("P12 40 blanks", x.tells(0), -21);
        due.is("P12 40 blanks: emptied", x.count(7), 0);
        SkewRings y = Scene.told(3, times("0,", 8) + "1" + times(" ", 23)).make();
        due.is("P12 23 signs too many", y.tells(0), -21 - 17);
    }

    /** "DEGREE (NONE of 0, too)": what was in the PLACE is gone. */
    private static void degreesTold() {
        for (int n = 0; n <= 8; n++) {
            String s = times("0,", n) + "2";
            for (String before : new String[] {"0", "3", "1,1,1,1,1", "1,2,3,1,2,3,1,2,3"}) {
                SkewRings x = Scene.told(0, s, "2,1", before).make();
                due.is("P12 t^" + n + " over " + before, x.tells(1), n);
                due.place("P12 t^" + n + " over " + before, x, 1, s);
                Due.text(x, "0");
                due.is("P12 0 over it", x.tells(1), -1);
                due.is("P12 0 over it", x.number(1, n), 0);
                due.is("P12 0 over it: PLACES in use", x.count(4), 1);
            }
        }
    }
}
