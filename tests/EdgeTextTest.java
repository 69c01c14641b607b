import java.util.ArrayList;
import java.util.List;

/**
 * Promises 9 to 11, and the sentences of "Terms" on THE TAPE, TOKENS, FAULTS, what may stand open, TEXTS, and
 * what an E is: each edge on both sides.
 */
public final class EdgeTextTest {
    private static final Due DUE = new Due();
    private static final Script EDGE = new Script(DUE);
    private static final String REST = ";harms 1;wakes 1;";
    private static final String WHOLE = "falls 1;harms 1;wakes 1;";
    private static final String[] ALL_TEXTS = {"tape: " + WHOLE, "text() = 1", "tape: " + WHOLE, "text() = 2",
        "tape: falls 3;harms 3;wakes 3;", "text() = 3", "tape: " + WHOLE, "text() = 4", "tape: " + WHOLE,
        "text() = 5"};
    private static final String[] OPENERS = {"(", "-", "not "};
    private static final String[] TOKENS = {"1", "rain", "(", ")", "-", "+", "*", "<", "=", "not", "and", "or", ";",
        "harms", "wakes", "x", "12345", "?"};

    public static void main(String[] args) {
        bytes();
        tapeFull();
        longestTexts();
        longChains();
        textNumbers();
        textFull();
        faultEmptiesTape();
        forces();
        everyByteAheadOfOne();
        everyByteBehindOne();
        digits();
        longestTokens();
        blanks();
        everyCut();
        everyKeyInEveryPlace();
        everyRowOfTokens();
        everyRowOfOpeners();
        whatEndsWhatIsOpen();
        truths();
        wraps();
        bindings();
        DUE.end("EdgeTextTest");
    }

    /** Promise 9. */
    private static void bytes() {
        EDGE.run("9: bytes 0 .. 255", "feed(0) = 1", "feed(255) = 2", "feed(256) = -2 !", "feed(-1) = -2 !",
            "feed(MAX) = -2 !", "feed(MIN) = -2 !", "feed(128) = 3", "count(6) = 3 ?");
        EDGE.run("9: an empty TAPE", "feed(-1) = -2 !", "feed(256) = -2 !", "count(6) = 0", "feed(97) = 1");
    }

    private static String times(String letters, int n) {
        return letters.repeat(n);
    }

    private static void tapeFull() {
        EDGE.run("9: 160 bytes", "tape: " + times(" ", 159), "count(6) = 159", "feed(32) = 160", "feed(32) = -4 !",
            "feed(0) = -4 !", "feed(255) = -4 !", "count(6) = 160");
        EDGE.run("9: BAD ahead of FULL", "tape: " + times(" ", 160), "feed(256) = -2 !", "feed(-1) = -2 !");
        EDGE.run("9: 160 bytes again behind a FAULT", "tape: " + times(" ", 160), "text() = -260", "feed(32) = 1",
            "tape: " + times(" ", 158), "feed(32) = 160", "feed(32) = -4 !", "text() = -260");
    }

    /** Texts of 159, 160 and more bytes: what is more has no room. */
    private static void longestTexts() {
        for (int n = 156; n <= 164; n++) {
            String letters = "falls 1;harms 1;wakes 1" + times("+1", (n - 24) / 2) + times(" ", n % 2) + ";";
            EDGE.run("10: a text of " + letters.length() + " bytes", "tape: " + letters,
                "count(6) = " + Math.min(160, n), "text() = " + (n <= 160 ? 1 : -260), "count(6) = 0");
        }
        EDGE.run("10: a FAULT at the last byte", "tape: " + WHOLE + times(" ", 135) + "?", "text() = -259");
        EDGE.run("10: a FAULT in the last word", "tape: " + WHOLE + times(" ", 134) + "ha", "text() = -258");
        EDGE.run("10: a whole text and blanks to the end", "tape: " + WHOLE + times(" ", 136), "text() = 1");
        EDGE.run("10: blanks, and a whole text to the end", "tape: " + times("\n", 136) + WHOLE, "text() = 1");
        EDGE.run("10: one blank too many", "tape: " + times("\n", 137) + WHOLE, "text() = -260");
    }

    /** As many parts as a tape has room for, and as much begun as can be ahead of the first that ends. */
    private static void longChains() {
        chain(times("1+", 68) + "1", 69);
        chain("199" + times("-2", 65), 69);
        chain(times("1*", 68) + "7", 7);
        chain(times("0or", 45) + "1", 1);
        chain(times("0or", 45) + "0", 0);
        chain(times("1and", 33) + "1", 1);
        chain(times("1and", 33) + "0", 0);
        chain("1" + times("*(hour=0)", 14), 1);
        chain("2+3*(2+3*(2+3*(2+3*(2+3*(1)*1))))-400", 85);
        chain("0 or 1 and 0<1+2*(0 or 1 and 0<1+2*(0 or 1 and 0<1+2*(0 or 1 and 0<1+2*(0 or 1 and 1<1+2*(1)))))", 1);
        chain("0 or 1 and 2<1+2*(0 or 1 and 2<1+2*(0 or 1 and 2<1+2*(0 or 1 and 2<1+2*(0 or 1 and 5<1+2*(1)))))", 0);
        chain("9-(8-(7-(6-(5-(4-3)))))", 6);
        chain("-(2-5)", 3);
        chain("-2", -2);
        chain("--2", 2);
        chain("not 2", 0);
        chain("not 0", 1);
    }

    private static void chain(String e, int v) {
        EDGE.run("10: " + e, "rule: falls " + e + REST, "drip(0, 0, 0) = 0", "falls(0, 0, 0) = " + Math.max(0, v));
    }

    /** Promise 10: numbers from 1 on, TEXT 0 with the six. */
    private static void textNumbers() {
        EDGE.run("10: TEXT 0 is there", "force(0) = 0", "force(1) = -2 !", "count(5) = 1");
        EDGE.run("10: a FAULT takes no number", "tape: ?", "text() = -100", "tape: " + WHOLE, "text() = 1",
            "tape: fall", "text() = -100", "tape: " + WHOLE, "text() = 2", "count(5) = 3");
        EDGE.run("10: THE RULE stays", "tape: falls 9;harms 9;wakes 9;", "text() = 1", "count(7) = 0",
            "drip(0, 0, 0) = 0", "falls(0, 0, 0) = 0", "force(1) = 0", "falls(0, 0, 0) = 9");
    }

    private static void textFull() {
        EDGE.after(ALL_TEXTS, "10: FULL, ahead of a whole text", "tape: falls 7;har", "text() = -4 !", "count(6) = 11",
            "tape: ms 1;wakes 1;", "text() = -4 !", "count(5) = 6", "count(6) = 24");
        EDGE.after(ALL_TEXTS, "10: FULL, ahead of a FAULT", "tape: ?", "text() = -4 !", "count(6) = 1");
        EDGE.after(ALL_TEXTS, "10: FULL, ahead of an empty TAPE", "text() = -4 !", "count(6) = 0", "feed(65) = 1");
        EDGE.after(ALL_TEXTS, "10: the last of six", "force(5) = 0", "force(6) = -2 !", "force(3) = 5",
            "drip(0, 0, 0) = 0", "falls(0, 0, 0) = 3");
        EDGE.run("10: five of six: a FAULT all the same", "tape: " + WHOLE, "text() = 1", "tape: " + WHOLE,
            "text() = 2", "tape: " + WHOLE, "text() = 3", "tape: " + WHOLE, "text() = 4", "tape: ?", "text() = -100",
            "count(6) = 0", "tape: " + WHOLE, "text() = 5", "text() = -4 !");
    }

    private static void faultEmptiesTape() {
        EDGE.run("10: empty then", "text() = -100", "count(6) = 0", "tape: " + WHOLE, "text() = 1", "count(6) = 0",
            "text() = -100", "tape: " + WHOLE + "x", "text() = -124", "count(6) = 0", "count(5) = 2");
    }

    /** Promise 11. */
    private static void forces() {
        EDGE.run("11: TEXT 0 alone", "force(0) = 0", "force(1) = -2 !", "force(-1) = -2 !", "force(MAX) = -2 !",
            "force(MIN) = -2 !", "count(7) = 0");
        EDGE.run("11: two", "tape: falls 8;harms 8;wakes 8;", "text() = 1", "force(2) = -2 !", "force(1) = 0",
            "force(1) = 1", "force(2) = -2 !", "force(-1) = -2 !", "count(7) = 1", "force(0) = 1", "count(7) = 0");
        List<String> lines = new ArrayList<>(List.of("drip(0, 0, 0) = 0", "set(1, 0, 1) = 0"));
        for (int text = 1; text < 6; text++) {
            lines.add("tape: falls " + text + ";harms " + 10 * text + ";wakes " + 20 * text + ";");
            lines.add("text() = " + text);
        }
        for (int text = 5; text > 0; text--) {
            lines.add("force(" + text + ") = " + (text + 1) % 6);
            lines.add("falls(0, 0, 0) = " + text);
            lines.add("day(0) = " + 240 * text);
            lines.add("day(1) = " + 20 * text);
        }
        EDGE.run("11: each of six tells its own", lines.toArray(new String[0]));
        EDGE.after(ALL_TEXTS, "11: all six", "force(1) = 0", "force(2) = 1", "force(3) = 2", "force(4) = 3",
            "force(5) = 4", "force(6) = -2 !", "force(0) = 5");
    }

    private static void fault(String letters, int place) {
        UnderTheRoof x = new UnderTheRoof();
        DUE.is("10: text() of '" + letters + "'", Roof.read(x, letters), place < 0 ? 1 : -100 - place);
    }

    private static boolean isIn(int c, char least, char most) {
        return c >= least && c <= most;
    }

    /** Where a ONE is wanted, each byte there is: at place 6, a 1 behind it at place 8. */
    private static void everyByteAheadOfOne() {
        for (int c = 0; c < 256; c++) {
            int place = c == ' ' || c == '\n' || c == '-' ? -1 : isIn(c, '0', '9') ? 8 : c == '(' ? 9 : 6;
            fault("falls " + (char) c + " 1;harms 1;wakes 1;", place);
        }
    }

    /** Between two ONES, at place 7. */
    private static void everyByteBehindOne() {
        for (int c = 0; c < 256; c++) {
            boolean joins = isIn(c, '0', '9') || "+-*<=".indexOf(c) >= 0;
            int place = joins ? -1 : c == ' ' || c == '\n' || c == ';' ? 8 : 7;
            fault("falls 1" + (char) c + "1;harms 1;wakes 1;", place);
        }
    }

    private static void digits() {
        for (String one : new String[] {"0", "9", "10", "99", "100", "999", "1000", "9999", "0000", "0009"}) {
            fault("falls " + one + REST, -1);
        }
        for (String one : new String[] {"00000", "10000", "99999", "00001", "123456", "1234567890123"}) {
            fault("falls " + one + REST, 6);
            fault("falls 1+" + one + REST, 8);
            fault("falls 1 " + one + REST, 8);
            fault("falls -" + one + REST, 7);
            fault("falls 1;harms " + one + ";wakes 1;", 14);
            fault("falls 1;harms 1;wakes " + one + ";", 22);
            fault(one, 0);
        }
        fault("falls 1234 5678" + REST, 11);
        fault("falls 1234\n+5678" + REST, -1);
        fault("falls 1+12345678901234567890*", 8);
    }

    /** Each token is as long as can be. */
    private static void longestTokens() {
        fault("fallsrain;harms 1;wakes 1;", 0);
        fault("falls rainhour" + REST, 6);
        fault("falls notrain" + REST, 6);
        fault("falls not rain" + REST, -1);
        fault("falls not1" + REST, -1);
        fault("falls 1or 1" + REST, -1);
        fault("falls 1or1" + REST, -1);
        fault("falls 1and1" + REST, -1);
        fault("falls 1orrain" + REST, 7);
        fault("falls rainor 1" + REST, 6);
        fault("falls rain1" + REST, 10);
        fault("falls 1rain" + REST, 7);
        fault("falls 1;harms1;wakes1;", -1);
        fault("falls 1;harmsrain;wakes1;", 8);
        fault("falls 1;harms 1;wakesize;", 16);
        fault("falls notnot 1" + REST, 6);
        fault("falls not not 1" + REST, -1);
        fault("falls --1" + REST, -1);
        fault("falls 1<=1" + REST, 8);
        fault("falls 1==1" + REST, 8);
    }

    private static void blanks() {
        fault("falls" + times(" ", 50) + "1" + times("\n", 50) + REST, -1);
        fault("\n \n" + WHOLE + "\n \n", -1);
        fault("fal ls 1" + REST, 0);
        fault("falls ra in" + REST, 6);
        fault("falls 1 0" + REST, 8);
        fault("falls 1 \n ", 10);
        for (char c : new char[] {0, 1, 9, 11, 12, 13, 31, 33, 127, 128, 133, 160, 255}) {
            fault("falls 1" + c + REST, 7);
            fault(c + WHOLE, 0);
            fault(WHOLE + c, 24);
            fault("" + c, 0);
        }
    }

    /** A whole text that ends at each of its places: at a word that is cut, else at its size. */
    private static void everyCut() {
        String whole = "falls not rain*12+(hour<-place)or size;harms gone and rate=1 ; wakes 9999-5\n;";
        String cutWords = " f fa fal fall n no r ra rai h ho hou p pl pla plac o s si siz ha har harm g go gon a an rat"
            + " w wa wak wake ";
        for (int size = 0; size < whole.length(); size++) {
            String cut = whole.substring(0, size);
            int word = size;
            while (word > 0 && isIn(cut.charAt(word - 1), 'a', 'z')) {
                word--;
            }
            boolean isCut = word < size && cutWords.contains(" " + cut.substring(word) + " ");
            fault(cut, isCut ? word : size);
        }
        fault(whole, -1);
    }

    /** falls, harms, wakes, one of each in this order; each other order is a FAULT at the first that is not due. */
    private static void everyKeyInEveryPlace() {
        String[] keys = {"falls", "harms", "wakes"};
        for (String a : keys) {
            for (String b : keys) {
                for (String c : keys) {
                    int place = !a.equals(keys[0]) ? 0 : !b.equals(keys[1]) ? 8 : !c.equals(keys[2]) ? 16 : -1;
                    fault(a + " 1;" + b + " 1;" + c + " 1;", place);
                }
            }
        }
        for (String word : "rain hour place rate size gone or and not".split(" ")) {
            fault(word + " 1;harms 1;wakes 1;", 0);
            fault("falls 1;" + word + " 1;wakes 1;", 8);
            fault("falls 1;harms 1;" + word + " 1;", 16);
            fault(WHOLE + word, 24);
        }
        for (String key : keys) {
            fault("falls " + key + REST, 6);
            fault("falls 1+" + key + REST, 8);
            fault("falls 1 " + key + REST, 8);
        }
        for (String name : "rain hour place rate size gone".split(" ")) {
            fault("falls " + name + ";harms " + name + ";wakes " + name + ";", -1);
        }
    }

    /** All rows of up to four tokens behind falls, and the same in brackets, against the second reading. */
    private static void everyRowOfTokens() {
        int n = TOKENS.length;
        for (int row = 0; row < n * n * n * n; row++) {
            String e = TOKENS[row % n] + " " + TOKENS[row / n % n] + " " + TOKENS[row / n / n % n] + " "
                + TOKENS[row / n / n / n];
            plainly("falls " + e + REST);
            if (row % 7 == 0) {
                plainly("falls 1;harms not (" + e + ") = 2;wakes - 1;");
            }
        }
    }

    private static void plainly(String letters) {
        fault(letters, new PlainText(letters).fault);
    }

    /** Each row of five and six openers: the sixth is one too many, and no not stands behind a -. */
    private static void everyRowOfOpeners() {
        for (int n = 1; n <= 7; n++) {
            for (int row = 0; row < Math.pow(3, n); row++) {
                StringBuilder letters = new StringBuilder("falls ");
                StringBuilder closers = new StringBuilder();
                int place = -1;
                int last = -1;
                int rest = row;
                for (int i = 0; i < n; i++) {
                    int opener = rest % 3;
                    rest /= 3;
                    if (place < 0 && (i == 5 || opener == 2 && last == 1)) {
                        place = letters.length();
                    }
                    letters.append(OPENERS[opener]);
                    closers.append(opener == 0 ? ")" : "");
                    last = opener;
                }
                fault(letters + "1" + closers + REST, place);
            }
        }
    }

    private static void e(String e, int place) {
        fault("falls " + e + REST, place < 0 ? -1 : 6 + place);
    }

    /** A ( till its ), a not and a - till what they belong to ends. */
    private static void whatEndsWhatIsOpen() {
        e("(((((1)+(1)))))", -1);
        e("(((((1)+((1))))))", 9);
        e("(((((1))+((1)))))", -1);
        e("(((((1))+(((1))))))", 11);
        e("-(1)+-----1", -1);
        e("-(1)*-----1", -1);
        e("-(1)*------1", 10);
        e("-----(1)", 5);
        e("----(1)", -1);
        e("-1+-1+-1+-1+-1+-1+-1", -1);
        e("-1*-1*-1*-1*-1*-1*-1", -1);
        e("not ----1", -1);
        e("not -----1", 8);
        e("not 1<-----1", 10);
        e("not 1<----1", -1);
        e("not 1=1 and -----1", -1);
        e("not 1=1 and ------1", 17);
        e("not 1 or not not not not not 1", -1);
        e("not not not not not 1 and not not not not not 1", -1);
        e("not not not not not 1 and not not not not not not 1", 46);
        e("not (not 1) and (((((1)))))", -1);
        e("(not not not not 1)+(((((1)))))", -1);
        e("(not not not not 1+(1))", 19);
        e("(not not not not 1)<-----1", -1);
        e("-(-(-(1)))", 5);
        e("-(-(-1))", -1);
        e("((((1))))+((((1))))+((((1))))", -1);
        e("(1)+((((((1))))))", 9);
        for (String part : new String[] {"(((((1)))))", "-----1", "not not not not not 1"}) {
            fault("falls " + part + ";harms " + part + ";wakes " + part + ";", -1);
        }
    }

    /** What HARM of one pint on PLACE 0 in HOUR 0 is, by this rule. */
    private static void value(String e, int due) {
        UnderTheRoof x = new UnderTheRoof();
        x.drip(5, 0, 0);
        Roof.rule(x, "falls 0-1;harms (hour=12)*(" + e + ");wakes 1;");
        DUE.is("10: E " + e, x.day(0), due);
    }

    /** What is not 0 is true; what is true is 1, what isn't is 0. */
    private static void truths() {
        String[] row = {"0-2", "0-1", "0", "1", "2"};
        for (int i = 0; i < row.length; i++) {
            String a = "(" + row[i] + ")";
            value("5+(not " + a + ")", i == 2 ? 6 : 5);
            value("5+(not not " + a + ")", i == 2 ? 5 : 6);
            for (int j = 0; j < row.length; j++) {
                String b = "(" + row[j] + ")";
                value("5+(" + a + " or " + b + ")", i != 2 || j != 2 ? 6 : 5);
                value("5+(" + a + " and " + b + ")", i != 2 && j != 2 ? 6 : 5);
                value("5+(" + a + " < " + b + ")", i < j ? 6 : 5);
                value("5+(" + a + " = " + b + ")", i == j ? 6 : 5);
            }
        }
    }

    /** 32 bits: 2147483647 is 128*4096*4096-1. */
    private static void wraps() {
        String over = "128*4096*4096";
        value(over + "<0", 1);
        value(over + "-1<0", 0);
        value(over + "-1+1<0", 1);
        value("-(" + over + ")=" + over, 1);
        value("-" + over + "=" + over, 1);
        value("0-" + over + "=" + over, 1);
        value("0-" + over + "-1=" + over + "-1", 1);
        value(over + "+" + over, 0);
        value("256*4096*4096+3", 3);
        value("4096*4096*256*9+8", 8);
        value("9999*9999*9999*9999-2147*1000*1000<0", wrapped(9999, 9999, 9999, 9999) - 2147000000 < 0 ? 1 : 0);
        value(over + "<1-" + over, 1);
        value("1-" + over + "<" + over, 0);
        value(over + "<" + over + "-1", 1);
        value("(" + over + "-1)*2+4", 2);
        value("not " + over, 0);
        value(over + " and 1", 1);
        value("4096*4096*256 or 0", 0);
    }

    private static int wrapped(int... factors) {
        java.math.BigInteger all = java.math.BigInteger.ONE;
        for (int factor : factors) {
            all = all.multiply(java.math.BigInteger.valueOf(factor));
        }
        return all.intValue();
    }

    private static void bindings() {
        value("1 or 0 and 0", 1);
        value("0 and 0 or 1", 1);
        value("0 and (0 or 1)", 0);
        value("not 0 and 0", 0);
        value("not 0 or 1", 1);
        value("not (0 or 1)", 0);
        value("not 1<0", 1);
        value("not 0=0", 0);
        value("not 2+1", 0);
        value("(not 2)+1", 1);
        value("1<2+1", 1);
        value("2+1<1", 0);
        value("2=1+1", 1);
        value("(2=1)+1", 1);
        value("9-2*3", 3);
        value("(9-2)*3", 21);
        value("2*3+1", 7);
        value("9-4-3", 2);
        value("9-4+3", 8);
        value("-2*-3", 6);
        value("-2+5", 3);
        value("-(2-5)", 3);
        value("5--2", 7);
        value("2*-3+9", 3);
        value("1 and 2 and 3", 1);
        value("1 and 2 and 0", 0);
        value("0 or 0 or 5", 1);
        value("3<5 and 5<3 or 1=1", 1);
    }
}
