/**
 * Promises 1 to 8 and 28, and the bounds of "Terms" that they use: at each edge the last that is allowed and
 * the first that isn't, empty and full, which refusal comes first, and that a refusal changes nothing.
 */
public final class EdgeHouseTest {
    private static final Due DUE = new Due();
    private static final Script EDGE = new Script(DUE);
    private static final String[] ONE_OF_EACH = {"drip(2, 34, 5) = 0", "vessel(7) = 0", "rain: 3 0 5"};
    private static final String[] SIX_DRIPS = {"drip(0, 0, 0) = 0", "drip(1, 11, 1) = 1", "drip(2, 22, 2) = 2",
        "drip(3, 33, 3) = 3", "drip(4, 44, 4) = 4", "drip(5, 55, 5) = 5"};
    private static final String[] FIVE_VESSELS = {"vessel(1) = 0", "vessel(20) = 1", "vessel(30) = 2",
        "vessel(40) = 3", "vessel(99) = 4"};
    private static final int[] FAR = {Integer.MIN_VALUE, Integer.MIN_VALUE + 1, -1000, -2, -1};

    public static void main(String[] args) {
        newObject();
        setWhat();
        setRain();
        setUp();
        setHands();
        setSort();
        setDrips();
        dripKinds();
        dripFull();
        vessels();
        vesselFull();
        puts();
        putState();
        fills();
        toldAll();
        fallsBounds();
        fallsOfKinds();
        fallsNamed();
        fallsBelowAndAbove();
        counts();
        DUE.end("EdgeHouseTest");
    }

    /** Promise 1. */
    private static void newObject() {
        EDGE.run("1: no DRIPS, no VESSELS", "count(0) = 0 ?", "count(1) = 0", "count(8) = 0", "told(0, 0) = -100 !",
            "told(0, 4) = -100 !", "drip(0, 0, 0) = 0", "vessel(1) = 0");
        EDGE.run("1: no UP, 2 HANDS, SORT 0", "count(2) = 0 ?", "count(3) = 2 ?", "count(4) = 0 ?");
        EDGE.run("1: TEXT 0, THE RULE, an empty TAPE", "count(5) = 1 ?", "count(7) = 0 ?", "count(6) = 0 ?");
        EDGE.run("1: no SHEETS", "cell(0, 0, 0) = -11 !", "cell(1, 0, 0) = -11 !", "cell(2, 0, 0) = -11 !",
            "cell(3, 0, 0) = -11 !");
        EDGE.run("1: no IMAGE", "back() = -3 !");
        for (int hour = 0; hour < 24; hour++) {
            EDGE.run("1: no rain", "set(0, " + hour + ", 1) = 0", "set(0, " + hour + ", 0) = 1");
        }
    }

    /** Promise 2: what is 0 .. 6. */
    private static void setWhat() {
        EDGE.after(ONE_OF_EACH, "2: what", "set(-1, 0, 1) = -2 !", "set(7, 0, 1) = -2 !", "set(MIN, 0, 1) = -2 !",
            "set(MAX, 0, 1) = -2 !", "set(0, 0, 1) = 3", "set(6, 0, 1) = 5");
    }

    private static void setRain() {
        EDGE.run("2: RAIN 0 .. 9", "set(0, 5, 9) = 0", "set(0, 5, 10) = -2 !", "set(0, 5, -1) = -2 !",
            "set(0, 5, MAX) = -2 !", "set(0, 5, MIN) = -2 !", "set(0, 5, 0) = 9", "set(0, 5, 0) = 0");
        EDGE.run("2: HOURS 0 .. 23", "set(0, 0, 1) = 0", "set(0, 23, 2) = 0", "set(0, 24, 3) = -2 !",
            "set(0, -1, 3) = -2 !", "set(0, MAX, 3) = -2 !", "set(0, MIN, 3) = -2 !", "set(0, 23, 0) = 2",
            "set(0, 0, 0) = 1");
        String[] lines = new String[48];
        for (int hour = 0; hour < 24; hour++) {
            lines[hour] = "set(0, " + hour + ", " + hour % 10 + ") = 0";
            lines[47 - hour] = "set(0, " + hour + ", 9) = " + hour % 10;
        }
        EDGE.run("2: each HOUR has its own RAIN", lines);
    }

    private static void setUp() {
        EDGE.run("2: UP, bits 0 .. 23", "set(1, 0, 16777215) = 0", "set(1, 0, 16777216) = -2 !",
            "set(1, 0, -1) = -2 !", "set(1, 0, MAX) = -2 !", "set(1, 0, MIN) = -2 !", "count(2) = 16777215",
            "set(1, 0, 8388608) = 16777215", "set(1, 0, 1) = 8388608", "set(1, 0, 0) = 1", "set(1, 0, 0) = 0");
        for (int what = 1; what <= 3; what++) {
            EDGE.run("2: by " + what + " of does not matter", "set(" + what + ", -1, 1) = " + (what == 2 ? 2 : 0),
                "set(" + what + ", 24, 1) = 1", "set(" + what + ", MIN, 1) = 1", "set(" + what + ", MAX, 1) = 1");
        }
    }

    private static void setHands() {
        EDGE.run("2: HANDS 1 .. 5", "set(2, 0, 1) = 2", "set(2, 0, 0) = -2 !", "set(2, 0, -1) = -2 !",
            "set(2, 0, 5) = 1", "set(2, 0, 6) = -2 !", "set(2, 0, MAX) = -2 !", "set(2, 0, MIN) = -2 !",
            "count(3) = 5", "set(2, 0, 2) = 5");
    }

    private static void setSort() {
        EDGE.run("2: SORT 0 or 1", "set(3, 0, 1) = 0", "set(3, 0, 2) = -2 !", "set(3, 0, -1) = -2 !",
            "set(3, 0, MAX) = -2 !", "set(3, 0, MIN) = -2 !", "count(4) = 1", "set(3, 0, 0) = 1", "count(4) = 0");
    }

    /** NUMBER, RATE, PLACE: of no DRIP, of one, of six. */
    private static void setDrips() {
        int[] most = {9, 9, 7};
        for (int what = 4; what <= 6; what++) {
            String of = "set(" + what + ", ";
            int top = most[what - 4];
            EDGE.run("2: no DRIPS, what " + what, of + "0, 0) = -2 !", of + "-1, 0) = -2 !");
            EDGE.after(ONE_OF_EACH, "2: what " + what, of + "0, 0) = " + (what - 1),
                of + "0, " + top + ") = 0", of + "0, " + (top + 1) + ") = -2 !", of + "0, -1) = -2 !",
                of + "0, MAX) = -2 !", of + "0, MIN) = -2 !", of + "1, 0) = -2 !", of + "-1, 0) = -2 !",
                of + "0, 1) = " + top, "told(0, " + (what - 3) + ") = 1");
            EDGE.after(SIX_DRIPS, "2: six DRIPS, what " + what, of + "5, 0) = 5", of + "6, 0) = -2 !",
                of + "-1, 0) = -2 !", of + "MAX, 0) = -2 !", of + "MIN, 0) = -2 !", of + "0, 7) = 0",
                of + "5, 1) = 0", of + "4, 1) = 4");
        }
    }

    /** Promise 3. */
    private static void dripKinds() {
        EDGE.run("3: KINDS 0 .. 5", "drip(-1, 0, 0) = -2 !", "drip(6, 0, 0) = -2 !", "drip(MAX, 0, 0) = -2 !",
            "drip(MIN, 0, 0) = -2 !", "drip(0, 0, 0) = 0", "drip(5, 0, 0) = 1", "told(0, 0) = 0", "told(1, 0) = 5");
        EDGE.run("3: what 0 .. 99", "drip(0, -1, 0) = -2 !", "drip(0, 100, 0) = -2 !", "drip(0, MAX, 0) = -2 !",
            "drip(0, MIN, 0) = -2 !", "drip(0, 0, 0) = 0", "drip(0, 9, 0) = 1", "drip(0, 10, 0) = 2",
            "drip(0, 90, 0) = 3", "drip(0, 99, 0) = 4", "told(0, 1) = 0", "told(0, 2) = 0", "told(1, 1) = 0",
            "told(1, 2) = 9", "told(2, 1) = 1", "told(2, 2) = 0", "told(3, 1) = 9", "told(3, 2) = 0", "told(4, 1) = 9",
            "told(4, 2) = 9");
        EDGE.run("3: PLACES 0 .. 7", "drip(0, 0, -1) = -2 !", "drip(0, 0, 8) = -2 !", "drip(0, 0, MAX) = -2 !",
            "drip(0, 0, MIN) = -2 !", "drip(0, 0, 0) = 0", "drip(0, 0, 7) = 1", "told(0, 3) = 0", "told(1, 3) = 7");
    }

    private static void dripFull() {
        EDGE.after(SIX_DRIPS, "3: FULL", "drip(0, 0, 0) = -4 !", "drip(5, 99, 7) = -4 !", "count(0) = 6");
        EDGE.after(SIX_DRIPS, "3: BAD ahead of FULL", "drip(-1, 0, 0) = -2 !", "drip(6, 0, 0) = -2 !",
            "drip(0, -1, 0) = -2 !", "drip(0, 100, 0) = -2 !", "drip(0, 0, -1) = -2 !", "drip(0, 0, 8) = -2 !");
        EDGE.run("3: numbered from 0, behind one that was refused", "drip(6, 0, 0) = -2", "drip(1, 23, 4) = 0",
            "drip(0, 100, 0) = -2", "drip(1, 23, 4) = 1", "told(0, 3) = 4", "told(1, 2) = 3");
    }

    /** Promise 4. */
    private static void vessels() {
        EDGE.run("4: SIZE 1 .. 99", "vessel(0) = -2 !", "vessel(100) = -2 !", "vessel(-1) = -2 !",
            "vessel(MAX) = -2 !", "vessel(MIN) = -2 !", "vessel(1) = 0", "vessel(99) = 1", "told(0, 4) = 1",
            "told(1, 4) = 99");
        EDGE.run("4: as they come", "vessel(5) = 0", "told(0, 5) = -1", "told(0, 6) = 0", "put(0, 3) = -1",
            "fill(0, 5) = 0", "vessel(5) = 1", "told(1, 5) = -1", "told(1, 6) = 0");
    }

    private static void vesselFull() {
        EDGE.after(FIVE_VESSELS, "4: FULL", "vessel(1) = -4 !", "vessel(99) = -4 !", "count(1) = 5");
        EDGE.after(FIVE_VESSELS, "4: BAD ahead of FULL", "vessel(0) = -2 !", "vessel(100) = -2 !");
    }

    /** Promise 5. */
    private static void puts() {
        EDGE.run("5: no VESSEL", "put(0, 0) = -2 !", "put(-1, 0) = -2 !", "put(0, -1) = -2 !");
        EDGE.after(ONE_OF_EACH, "5: PLACES 0 .. 7, NONE", "put(0, 0) = -1", "put(0, 7) = 0", "put(0, 8) = -2 !",
            "put(0, -2) = -2 !", "put(0, MAX) = -2 !", "put(0, MIN) = -2 !", "put(0, -1) = 7", "put(0, -1) = -1",
            "put(1, 0) = -2 !", "put(-1, 0) = -2 !");
        EDGE.after(FIVE_VESSELS, "5: five VESSELS", "put(4, 7) = -1", "put(5, 0) = -2 !", "put(-1, 0) = -2 !",
            "put(MAX, 0) = -2 !", "put(MIN, 0) = -2 !", "put(0, 0) = -1", "told(4, 5) = 7");
    }

    private static void putState() {
        EDGE.after(FIVE_VESSELS, "5: STATE", "put(0, 3) = -1", "put(4, 3) = -3 !", "put(4, 2) = -1",
            "put(4, 3) = -3 !", "put(0, 2) = -3 !", "put(0, 3) = 3", "put(0, -1) = 3", "put(4, 3) = 2",
            "put(0, 3) = -3 !");
        EDGE.after(FIVE_VESSELS, "5: on none any number of them", "put(0, -1) = -1", "put(1, -1) = -1",
            "put(2, 5) = -1", "put(2, -1) = 5", "put(1, 5) = -1");
        EDGE.after(ONE_OF_EACH, "5: BAD ahead of STATE", "put(0, 3) = -1", "put(1, 3) = -2 !", "put(-1, 3) = -2 !");
    }

    /** Promise 6. */
    private static void fills() {
        EDGE.run("6: no VESSEL", "fill(0, 0) = -2 !", "fill(-1, 0) = -2 !");
        EDGE.after(FIVE_VESSELS, "6: WATER 0 .. SIZE", "fill(0, 1) = 0", "fill(0, 2) = -2 !", "fill(0, -1) = -2 !",
            "fill(0, 0) = 1", "fill(4, 99) = 0", "fill(4, 100) = -2 !", "fill(4, MAX) = -2 !", "fill(4, MIN) = -2 !",
            "fill(4, 98) = 99", "fill(4, 0) = 98", "fill(3, 40) = 0", "fill(3, 41) = -2 !", "told(3, 6) = 40");
        EDGE.after(FIVE_VESSELS, "6: which VESSEL", "fill(5, 0) = -2 !", "fill(-1, 0) = -2 !", "fill(MAX, 0) = -2 !",
            "fill(MIN, 0) = -2 !");
    }

    /** Promise 7. */
    private static void toldAll() {
        EDGE.after(ONE_OF_EACH, "7: what 0 .. 6", "told(0, -1) = -100 !", "told(0, 0) = 2 ?", "told(0, 1) = 3 ?",
            "told(0, 2) = 4 ?", "told(0, 3) = 5 ?", "told(0, 4) = 7 ?", "told(0, 5) = -1 ?", "told(0, 6) = 0 ?",
            "told(0, 7) = -100 !", "told(0, MAX) = -100 !", "told(0, MIN) = -100 !");
        for (int what = 0; what <= 6; what++) {
            EDGE.run("7: none at all", "told(0, " + what + ") = -100 !", "told(-1, " + what + ") = -100 !");
            EDGE.after(what < 4 ? SIX_DRIPS : FIVE_VESSELS, "7: behind the last, what " + what,
                "told(" + (what < 4 ? 6 : 5) + ", " + what + ") = -100 !", "told(-1, " + what + ") = -100 !",
                "told(MAX, " + what + ") = -100 !", "told(MIN, " + what + ") = -100 !");
        }
        EDGE.after(SIX_DRIPS, "7: the last DRIP", "told(5, 0) = 5", "told(5, 1) = 5", "told(5, 2) = 5",
            "told(5, 3) = 5", "told(0, 4) = -100", "told(5, 4) = -100");
        EDGE.after(FIVE_VESSELS, "7: the last VESSEL", "told(4, 4) = 99", "told(4, 5) = -1", "told(4, 6) = 0",
            "told(0, 0) = -100", "told(4, 3) = -100");
    }

    /** Promise 8. */
    private static void fallsBounds() {
        EDGE.run("8: no DRIP", "falls(0, 0, 0) = -2 !", "falls(-1, 0, 0) = -2 !");
        EDGE.after(ONE_OF_EACH, "8: a DRIP, HOURS, what", "falls(0, 0, 0) = 12 ?", "falls(0, 0, 1) = 5 ?",
            "falls(0, 2, 0) = 10 ?", "falls(0, 2, 1) = 6 ?", "falls(0, 23, 0) = 0 ?", "falls(0, 24, 0) = -2 !",
            "falls(0, -1, 0) = -2 !", "falls(0, 0, 2) = -2 !", "falls(0, 0, -1) = -2 !", "falls(1, 0, 0) = -2 !",
            "falls(-1, 0, 0) = -2 !", "falls(0, MAX, 0) = -2 !", "falls(0, MIN, 1) = -2 !", "falls(0, 0, MAX) = -2 !",
            "falls(0, 0, MIN) = -2 !", "falls(MAX, 0, 0) = -2 !", "falls(MIN, 0, 1) = -2 !");
        EDGE.after(SIX_DRIPS, "8: the last DRIP", "falls(5, 12, 0) = 1", "falls(5, 0, 0) = 0",
            "falls(6, 12, 0) = -2 !");
    }

    private static int due(int kind, int v, int hour, int rain, int number) {
        int half = rain > number ? v / 2 : v;
        switch (kind) {
            case 0:
                return v;
            case 1:
                return v + 1;
            case 2:
                return half;
            case 3:
                return hour < number ? 0 : 2 * (v + 1);
            case 4:
                return half > 9 ? 9 : half;
            default:
                return hour < 12 ? 0 : v + 1;
        }
    }

    private static int whereDue(int kind, int place, int rain, int number) {
        return kind == 2 && rain > number ? (place + 1) % 8 : kind == 4 ? number % 8 : place;
    }

    /** Each KIND by each NUMBER, RAIN and HOUR: so NUMBER's, 8's, 9's and HOUR 12's both sides are among them. */
    private static void fallsOfKinds() {
        for (int number = 0; number <= 9; number++) {
            for (int rain = 0; rain <= 9; rain++) {
                int rate = (number + 3 * rain) % 10;
                int place = (number + 5 * rain) % 8;
                UnderTheRoof x = new UnderTheRoof();
                Roof.rainAll(x, rain);
                for (int kind = 0; kind < 6; kind++) {
                    x.drip(kind, 10 * number + rate, place);
                }
                for (int kind = 0; kind < 6; kind++) {
                    String what = "8: KIND " + kind + ", NUMBER " + number + ", RAIN " + rain + ", HOUR ";
                    for (int hour = 0; hour < 24; hour++) {
                        DUE.is(what + hour, x.falls(kind, hour, 0), due(kind, rate * rain, hour, rain, number));
                        DUE.is(what + hour + ", WHERE", x.falls(kind, hour, 1), whereDue(kind, place, rain, number));
                    }
                }
            }
        }
    }

    /** What the names are in falls: place is WHERE it falls then, size and gone are 0 though one was gone long. */
    private static void fallsNamed() {
        int[] due = {5, 20, 0, 6, 0, 0};
        String[] names = {"rain", "hour", "place", "rate", "size", "gone"};
        for (int i = 0; i < 6; i++) {
            EDGE.run("8: falls " + names[i], "rule: falls 3+" + names[i] + ";harms 1;wakes 1;", "drip(0, 46, 0) = 0",
                "drip(2, 46, 7) = 1", "drip(2, 56, 6) = 2", "set(0, 20, 5) = 0", "set(1, 0, 2) = 0",
                "falls(0, 20, 0) = " + (3 + due[i]), "falls(1, 20, 0) = " + (3 + due[i]) / 2, "falls(1, 20, 1) = 0",
                "falls(2, 20, 0) = " + (i == 2 ? 9 : 3 + due[i]), "falls(2, 20, 1) = 6");
        }
    }

    private static void fallsBelowAndAbove() {
        String[] texts = {"0-9999*9999", "0-2", "0-1", "0", "1", "2", "17", "18", "19", "98", "99", "100", "9999*9999",
            "9999*9999*22", "9999*9999*43"};
        int[] v = {0, 0, 0, 0, 1, 2, 17, 18, 19, 98, 99, 99, 99, 0, 99};
        for (int i = 0; i < texts.length; i++) {
            UnderTheRoof x = new UnderTheRoof();
            Roof.rule(x, "falls " + texts[i] + ";harms 1;wakes 1;");
            for (int rain = 4; rain <= 5; rain++) {
                x.set(0, 12, rain);
                for (int kind = 0; kind < 6; kind++) {
                    x.drip(kind, 40, 0);
                    DUE.is("8: falls " + texts[i] + " of KIND " + kind + " by RAIN " + rain, x.falls(kind, 12, 0),
                        due(kind, v[i], 12, rain, 4));
                }
            }
        }
    }

    /** Promise 28. */
    private static void counts() {
        EDGE.after(ONE_OF_EACH, "28: what 0 .. 8", "count(-1) = -2 !", "count(9) = -2 !", "count(MIN) = -2 !",
            "count(MAX) = -2 !", "count(0) = 1 ?", "count(1) = 1 ?", "count(2) = 0 ?", "count(3) = 2 ?",
            "count(4) = 0 ?", "count(5) = 1 ?", "count(6) = 0 ?", "count(7) = 0 ?", "count(8) = 0 ?");
        EDGE.after(SIX_DRIPS, "28: six DRIPS", "count(0) = 6", "count(1) = 0");
        EDGE.after(FIVE_VESSELS, "28: WATER of all of them", "fill(0, 1) = 0", "fill(4, 99) = 0", "count(8) = 100",
            "put(4, 2) = -1", "count(8) = 100", "fill(1, 20) = 0", "fill(2, 30) = 0", "fill(3, 40) = 0",
            "count(8) = 190", "count(1) = 5");
        EDGE.run("28: UP, HANDS, SORT as they are", "set(1, 0, 16777215) = 0", "set(2, 0, 5) = 2", "set(3, 0, 1) = 0",
            "count(2) = 16777215", "count(3) = 5", "count(4) = 1");
        for (int far : FAR) {
            EDGE.run("28: far below", "count(" + far + ") = -2");
        }
    }
}
