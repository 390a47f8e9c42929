/** Promises 10 to 12, and what fits() (32) says of THE TEXT. */
public final class TextTest {
    private static final Due due = new Due();

    public static void main(String[] args) {
        signs();
        ends();
        lists();
        faultsOfLists();
        faultsOfCouples();
        emptied();
        due.finish("TextTest");
    }

    private static void signs() {
        SkewRings x = Due.fresh(3);
        for (int n = 4; n <= 40; n += 4) due.is("P10 sign", x.sign(0x312C322C), n);
        due.is("P10 beyond 40", x.sign(0x31000000), -1);
        due.is("P10 beyond 40: as it was", x.count(7), 40);
        due.holds("P10 end(37)", x.end(37));
        due.is("P10 41 would be there", x.sign(0), -1);
        due.is("P10 as it was", x.count(7), 37);
        due.holds("P10 end(36)", x.end(36));
        due.is("P10 up to 40", x.sign(-1), 40);
        due.holds("P10 end(3)", x.end(3));
        due.is("P10 the highest byte first", x.tells(0), 1);
        due.place("P10", x, 0, "1,2");
        x.sign(0xB1000000);
        due.holds("P10 end(1)", x.end(1));
        due.is("P10 a sign above 127 is no digit", x.tells(0), -21);
    }

    private static void ends() {
        SkewRings x = Due.fresh(0);
        due.holds("P11 end(0) of none", x.end(0));
        due.holds("P11 end(1) of none", !x.end(1));
        Due.text(x, "12345678");
        due.holds("P11 end(9)", !x.end(9));
        due.holds("P11 end(-1)", !x.end(-1));
        due.holds("P11 end(MIN)", !x.end(Integer.MIN_VALUE));
        due.is("P11 refused, as it was", x.count(7), 8);
        due.holds("P11 end(8)", x.end(8));
        due.is("P11 all", x.count(7), 8);
        due.holds("P11 end(5)", x.end(5));
        due.is("P11 five", x.count(7), 5);
        due.holds("P11 end(6) now", !x.end(6));
        due.holds("P11 end(0)", x.end(0));
        due.is("P11 none", x.count(7), 0);
    }

    private static void list(int field, String text, int answer, String has) {
        SkewRings x = Due.fresh(field);
        due.is("P12 " + text, Due.put(x, 2, text), answer);
        due.place("P12 " + text, x, 2, has);
        due.is("P12 " + text + ": emptied", x.count(7), 0);
    }

    private static void lists() {
        list(0, "0", -1, "0");
        list(0, "3", 0, "3");
        list(0, "03", 0, "3");
        list(0, "2,1", 1, "2,1");
        list(0, "0,0,0", -1, "0");
        list(0, "1,2,3,0,0", 2, "1,2,3");
        list(3, "15,00,09", 2, "15,0,9");
        list(3, "15,14,13,12,11,10,09,08,07", 8, "15,14,13,12,11,10,9,8,7");
        list(1, "1,2,3,4,5,6,7,0,1", 8, "1,2,3,4,5,6,7,0,1");
        list(2, "8,08", 1, "8,8");
    }

    private static void fault(int field, String text, int p) {
        SkewRings x = Due.fresh(field, "1,1", "2,1");
        String before = Due.state(x);
        due.is("P12 field " + field + " \"" + text + "\"", Due.put(x, 0, text), -21 - p);
        due.holds("P12 \"" + text + "\" changes nothing", Due.state(x).equals(before));
        due.is("P12 \"" + text + "\": emptied", x.count(7), 0);
        due.is("P12 the sign goes ahead of the PLACE: \"" + text + "\"", Due.put(x, 6, text), -21 - p);
    }

    private static void faultsOfLists() {
        fault(0, "", 0);
        fault(0, "4", 0);
        fault(0, "40", 1);
        fault(0, "12", 1);
        fault(0, "1,04", 3);
        fault(0, "123", 2);
        fault(0, "003", 2);
        fault(0, "1,999", 4);
        fault(0, "4x", 0);
        fault(0, "12x", 1);
        fault(0, "1x", 1);
        fault(0, "1 ", 1);
        fault(0, " 1", 0);
        fault(0, "1, 2", 2);
        fault(0, ",1", 0);
        fault(0, "1,", 2);
        fault(0, "1,,2", 2);
        fault(0, "1:2", 1);
        fault(0, "-1", 0);
        fault(0, "1,2/", 3);
        fault(1, "8", 0);
        fault(2, "70", 1);
        fault(2, "9", 0);
        fault(3, "16", 1);
        fault(3, "15,16", 4);
        fault(3, "99", 1);
        fault(0, "0,0,0,0,0,0,0,0,0,0", 17);
        fault(0, "0,0,0,0,0,0,0,0,0,", 17);
        fault(0, "0,0,0,0,0,0,0,0,4,0", 16);
        fault(0, "00,00,00,00,00,00,00,00,000", 26);
        SkewRings x = Due.fresh(0, "1,1");
        due.is("P12 no such PLACE", Due.put(x, 6, "1"), -100);
        due.is("P12 no such PLACE", Due.put(x, -1, "1"), -100);
        due.is("P12 emptied", x.count(7), 0);
        due.place("P12 as it was", x, 0, "1,1");
    }

    private static void wrongCouple(int field, String text, int p) {
        SkewRings x = Due.fresh(field, "1,1", "2,1");
        String before = Due.state(x);
        Due.text(x, text);
        due.is("P32 field " + field + " \"" + text + "\"", x.fits(1), -21 - p);
        due.holds("P32 \"" + text + "\" changes nothing", Due.state(x).equals(before));
        due.is("P32 \"" + text + "\": emptied", x.count(7), 0);
        Due.text(x, text);
        due.is("P32 the sign goes ahead of the PLACE: \"" + text + "\"", x.fits(-1), -21 - p);
    }

    private static void faultsOfCouples() {
        wrongCouple(0, "", 0);
        wrongCouple(0, "1", 1);
        wrongCouple(0, "1:", 2);
        wrongCouple(0, "1:1,", 4);
        wrongCouple(0, "1,1", 1);
        wrongCouple(0, "1:1:1", 3);
        wrongCouple(0, "1 :1", 1);
        wrongCouple(0, "1: 1", 2);
        wrongCouple(0, "1:1 ", 3);
        wrongCouple(0, "4:1", 0);
        wrongCouple(0, "1:4", 2);
        wrongCouple(0, "12:4", 1);
        wrongCouple(0, "001:4", 2);
        wrongCouple(0, "1:001", 4);
        wrongCouple(0, "1:1,1:1", 4);
        wrongCouple(0, "1:1,01:1", 5);
        wrongCouple(0, "1:1,1", 4);
        wrongCouple(0, "1:1,1x", 4);
        wrongCouple(0, "1:1,011", 6);
        wrongCouple(3, "1:1,2:2,11:3,11:4", 14);
        wrongCouple(3, "0:0,1:1,2:2,3:3,4:4,5:5,6:6", 23);
        wrongCouple(3, "0:0,1:1,2:2,3:3,4:4,5:5,", 23);
        wrongCouple(3, "0:0,1:1,2:2,3:3,4:4,16:5", 21);
        wrongCouple(3, "10:15,11:15,12:15,13:15,14:15,15:15,", 35);
        SkewRings x = Due.fresh(0, "1,1");
        Due.text(x, "1:1,2:1,3:2");
        due.is("P32 no such PLACE goes ahead of -3", x.fits(6), -100);
        due.is("P32 emptied", x.count(7), 0);
    }

    /** Only a call that reads THE TEXT empties it. */
    private static void emptied() {
        SkewRings x = Due.fresh(0, "1,1", "2,1");
        Due.text(x, "1");
        x.adds(0, 1, 2);
        x.roots(0);
        x.degree(9);
        x.field(1);
        due.is("P12 other calls leave THE TEXT", x.count(7), 1);
        Due.text(x, ",7");
        due.is("P12 more signs come behind", x.tells(0), 1);
        due.place("P12", x, 0, "1,7");
    }
}
