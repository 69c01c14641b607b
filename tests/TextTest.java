/** Promises 9 to 11: the tape, texts and their faults, the rule. */
public final class TextTest {
    private static final Due DUE = new Due();
    private static final String HARMS = ";harms 1;wakes 1;";

    public static void main(String[] args) {
        feeds();
        firstText();
        wholeTexts();
        faults();
        faultsInParts();
        opens();
        values();
        tooMany();
        tapeEmpties();
        forces();
        DUE.end("TextTest");
    }

    /** Promise 9. */
    private static void feeds() {
        UnderTheRoof x = new UnderTheRoof();
        for (int letter : new int[] {-1, 256, Integer.MIN_VALUE, Integer.MAX_VALUE}) {
            DUE.is("9: feed(" + letter + ")", x.feed(letter), -2);
        }
        DUE.is("9: none came", x.count(6), 0);
        for (int i = 1; i <= 160; i++) {
            DUE.is("9: byte " + i, x.feed(i % 256), i);
        }
        DUE.is("9: one more", x.feed(65), -4);
        DUE.is("9: one more, bad: BAD ahead of FULL", x.feed(256), -2);
        DUE.is("9: as many as were", x.count(6), 160);
        DUE.is("9: read", x.text(), -100);
        DUE.is("9: the first byte", x.feed(0), 1);
        DUE.is("9: the largest byte", x.feed(255), 2);
    }

    private static void fault(String letters, int place) {
        UnderTheRoof x = new UnderTheRoof();
        DUE.is("10: text() of '" + letters + "'", Roof.read(x, letters), place < 0 ? 1 : -100 - place);
        DUE.is("10: texts behind '" + letters + "'", x.count(5), place < 0 ? 2 : 1);
        DUE.is("10: bytes behind '" + letters + "'", x.count(6), 0);
    }

    private static void firstText() {
        UnderTheRoof x = new UnderTheRoof();
        DUE.is("10: there is TEXT 0", x.count(5), 1);
        DUE.is("11: it is THE RULE", x.count(7), 0);
        DUE.is("10: it can be read", Roof.read(x, Roof.FIRST_TEXT), 1);
        for (int text = 0; text < 2; text++) {
            UnderTheRoof y = new UnderTheRoof();
            Roof.read(y, Roof.FIRST_TEXT);
            y.force(text);
            y.drip(0, 9, 3);
            Roof.rain(y, 0, 7);
            y.set(1, 0, 1);
            DUE.is("10: falls rate * rain, text " + text, y.falls(0, 1, 0), 63);
            DUE.is("10: harms size * 2, text " + text, y.day(0), 126);
            DUE.is("10: wakes 5, text " + text, y.day(1), 5);
        }
    }

    private static void wholeTexts() {
        fault("falls 1;harms 1;wakes 1;", -1);
        fault("falls1;harms1;wakes1;", -1);
        fault(" \n falls\n1\n;\nharms 1 ; wakes 1 ; \n ", -1);
        fault("falls(1);harms-1;wakes not 1;", -1);
        fault("falls 0000;harms 9999;wakes 0;", -1);
        fault("falls rain+hour-place*rate<size or gone;harms 1;wakes 1;", -1);
        fault("falls not not rain and not hour or not place=1;harms 1;wakes 1;", -1);
        fault("falls(rain<1)<(hour=2);harms 1;wakes 1;", -1);
        fault("falls 1--1;harms 1*-1;wakes 1<-1;", -1);
        fault("falls(not 1)+(1 or 2)*(1 and 2);harms 1;wakes 1;", -1);
        StringBuilder longest = new StringBuilder("falls 1;harms 1;wakes 1");
        while (longest.length() < 159) {
            longest.append(longest.length() + 2 <= 159 ? "+1" : " ");
        }
        fault(longest + ";", -1);
    }

    private static void faults() {
        fault("", 0);
        fault("   ", 3);
        fault("\n", 1);
        fault("1", 0);
        fault("falls", 5);
        fault("falls ", 6);
        fault("falls 1", 7);
        fault("falls 1 ", 8);
        fault("falls 1;", 8);
        fault("falls 1;harms 1;wakes 1", 23);
        fault("falls 1;harms 1;wakes 1 \n", 25);
        fault("falls 1;harms 1;wakes 1;;", 24);
        fault("falls 1;harms 1;wakes 1; x", 25);
        fault("falls 1;harms 1;wakes 1; falls", 25);
        fault("harms 1;falls 1;wakes 1;", 0);
        fault("falls 1;wakes 1;harms 1;", 8);
        fault("falls 1;falls 1;wakes 1;", 8);
        fault("Falls 1;harms 1;wakes 1;", 0);
        fault("fallsrain;harms 1;wakes 1;", 0);
        fault("fall 1;harms 1;wakes 1;", 0);
        fault("fallss 1;harms 1;wakes 1;", 0);
        fault("falls\t1;harms 1;wakes 1;", 5);
        fault("falls\r1;harms 1;wakes 1;", 5);
        fault("falls \u00001;harms 1;wakes 1;", 6);
        fault("falls \u00ff;harms 1;wakes 1;", 6);
        fault("falls 1;harms 1;wakes 1; \u00ff", 25);
    }

    /** Each E here stands behind "falls ", so its first byte is byte 6. */
    private static void e(String e, int place) {
        fault("falls " + e + HARMS, place < 0 ? -1 : 6 + place);
    }

    private static void faultsInParts() {
        e("", 0);
        e("raine", 0);
        e("rai", 0);
        e("rain hour", 5);
        e("rain2", 4);
        e("2rain", 1);
        e("12345", 0);
        e("00000", 0);
        e("1+12345", 2);
        e("1234 5", 5);
        e("1 12345", 2);
        e("x", 0);
        e("1+x", 2);
        e("1 x", 2);
        e("1/2", 1);
        e("1>2", 1);
        e("1?", 1);
        e("+1", 0);
        e("*1", 0);
        e("<1", 0);
        e("=1", 0);
        e(")", 0);
        e("or 1", 0);
        e("and 1", 0);
        e("falls", 0);
        e("wakes", 0);
        e("1+", 2);
        e("1*", 2);
        e("1<", 2);
        e("1=", 2);
        e("1 or", 4);
        e("1 and", 5);
        e("not", 3);
        e("-", 1);
        e("(", 1);
        e("()", 1);
        e("(1", 2);
        e("1)", 1);
        e("(1))", 3);
        e("((1)", 4);
        e("1(", 1);
        e("1 not 2", 2);
        e("1+not 2", 2);
        e("-not 2", 1);
        e("1<not 2", 2);
        e("1<2<3", 3);
        e("1=2=3", 3);
        e("1<2=3", 3);
        e("not 1<2<3", 7);
        e("1<2 and 3<4", -1);
        e("1<2 or 3<4", -1);
        e("1<2 or 3<4<5", 10);
        e("1+*2", 2);
        e("1+-2", -1);
        e("1 or or 2", 5);
        e("1 and or 2", 6);
        e("not or", 4);
        e("1 falls", 2);
        e("1 rain x", 2);
        e("1;1", 2);
    }

    private static void opens() {
        e("(((((1)))))", -1);
        e("((((((1))))))", 5);
        e("-----1", -1);
        e("------1", 5);
        e("not not not not not 1", -1);
        e("not not not not not not 1", 20);
        e("not(not(not(1)))", 11);
        e("not(not(-1))", -1);
        e("not(not(--1))", 9);
        e("not(not(-(1)))", 9);
        e("(((((1)))))+(((((1)))))", -1);
        e("(((((1)))))+((((((1))))))", 17);
        e("-----1-----1", -1);
        e("-----1------1", -1);
        e("-----1-------1", 12);
        e("-(-(-(1)))", 5);
        e("-(-(-1))+(((((1)))))", -1);
        e("((((-1))))", -1);
        e("((((-1-1))))", -1);
        e("((((--1))))", 5);
        e("((((-1+-1))))", -1);
        e("not 1 and not 1 and not 1 and not 1 and not 1 and not 1", -1);
        e("not not 1<((((1))))", 13);
        e("not not 1<(((1)))", -1);
        e("not not 1 or ((((1))))", -1);
        e("not not 1+((((1))))", 13);
        e("((((-1))))-((((-1))))", -1);
        e("(((((not 1)))))", 5);
        e("(((((-1)))))", 5);
        e("(((((1+1)+1)+1)+1)+1)", -1);
        fault("falls (((((1)))));harms (((((1)))));wakes (((((1)))));", -1);
        fault("falls (((((1)))));harms ((((((1))))));wakes 1;", 29);
    }

    /** What harms tells of one pint on PLACE 3 in HOUR 5, with RAIN 7. */
    private static void value(String e, int due) {
        UnderTheRoof x = new UnderTheRoof();
        x.drip(0, 1, 3);
        x.set(0, 5, 7);
        Roof.rule(x, "falls (hour=5)*2;harms " + e + ";wakes 1;");
        DUE.is("10: harms " + e, x.day(0), due);
    }

    private static void values() {
        value("12", 12);
        value("0012", 12);
        value("rain", 7);
        value("hour", 5);
        value("place", 3);
        value("rate", 0);
        value("size", 2);
        value("gone", 5);
        value("2+3*4", 14);
        value("(2+3)*4", 20);
        value("20-5-3", 12);
        value("20-(5-3)", 18);
        value("2*3*4", 24);
        value("-3+10", 7);
        value("-(3-10)", 7);
        value("--7", 7);
        value("10--7", 17);
        value("-2*-3", 6);
        value("not 0", 1);
        value("not 9", 0);
        value("not not 9", 1);
        value("1<2", 1);
        value("2<1", 0);
        value("2<2", 0);
        value("2=2", 1);
        value("2=1", 0);
        value("1+1=2", 1);
        value("5 or 0", 1);
        value("0 or 0", 0);
        value("0 or 5", 1);
        value("5 and 6", 1);
        value("5 and 0", 0);
        value("0 and 5", 0);
        value("0 and 0", 0);
        value("1 or 1 and 0", 1);
        value("(1 or 1) and 0", 0);
        value("not 1 or 1", 1);
        value("not 1 and 0", 0);
        value("not (1 and 0)", 1);
        value("not 1=2", 1);
        value("(not 1)=2", 0);
        value("not 0+1", 0);
        value("(1<2)+(2<3)", 2);
        value("(5 or 0)*7", 7);
        value("999", 999);
        value("1000", 999);
        value("0-1", 0);
        value("9999*9999*9999<0", 1);
        value("9999*9999*22<0", 1);
        value("9999*9999*21<0", 0);
        value("65*6400*8000<0", 1);
        value("4096*4096*256+5", 5);
        value("4096*4096*128<0", 1);
        value("4096*4096*128-1<0", 0);
        value("-(4096*4096*128)<0", 1);
    }

    private static void tooMany() {
        UnderTheRoof x = new UnderTheRoof();
        for (int text = 1; text < 6; text++) {
            DUE.is("10: text " + text, Roof.read(x, "falls " + text + HARMS), text);
        }
        Roof.feed(x, "oh");
        DUE.is("10: a seventh is FULL, ahead of its fault", x.text(), -4);
        DUE.is("10: the tape stays", x.count(6), 2);
        DUE.is("10: feed goes on", x.feed(33), 3);
        DUE.is("10: as many as were", x.count(5), 6);
        x.drip(0, 0, 0);
        for (int text = 5; text > 0; text--) {
            x.force(text);
            DUE.is("10: what text " + text + " tells", x.falls(0, 0, 0), text);
        }
    }

    private static void tapeEmpties() {
        UnderTheRoof x = new UnderTheRoof();
        DUE.is("10: an empty tape", x.text(), -100);
        DUE.is("10: a fault", Roof.read(x, "falls 1;harms 1;waxes 1;"), -116);
        DUE.is("10: empty behind it", x.count(6), 0);
        DUE.is("10: a text behind it", Roof.read(x, "falls 1;harms 1;wakes 1;"), 1);
        DUE.is("10: empty behind that", x.count(6), 0);
        DUE.is("10: bytes from 1 on again", x.feed(32), 1);
        x.force(1);
        x.drip(0, 0, 0);
        Roof.read(x, "falls 2;harms 2;wakes 2");
        DUE.is("10: a fault leaves THE RULE", x.falls(0, 0, 0), 1);
        DUE.is("10: and how many there are", x.count(5), 2);
    }

    /** Promise 11. */
    private static void forces() {
        UnderTheRoof x = new UnderTheRoof();
        DUE.is("11: the same", x.force(0), 0);
        DUE.is("11: none yet", x.force(1), -2);
        Roof.read(x, "falls 1;harms 1;wakes 1;");
        Roof.read(x, "falls 2;harms 2;wakes 2;");
        DUE.is("11: another", x.force(2), 0);
        DUE.is("11: and another", x.force(1), 2);
        for (int text : new int[] {-1, 3, 6, Integer.MAX_VALUE, Integer.MIN_VALUE}) {
            DUE.is("11: force(" + text + ")", x.force(text), -2);
        }
        DUE.is("11: as it was", x.count(7), 1);
    }
}
