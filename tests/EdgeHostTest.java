/**
 * Promises 29 to 33, and what "Terms" tells of SHEETS: each edge on both sides, missing and empty and full
 * ones, which refusal comes first, and that it changes nothing.
 */
public final class EdgeHostTest {
    private static final Due DUE = new Due();
    private static final Script EDGE = new Script(DUE);
    /** SHEET 0 of bytes, 1 of shorts, 2 of ints; 3 is missing. */
    private static final String[] THREE = {"row: 0 0 0 5 1 6 2 7", "row: 1 1 3 8 4 9", "row: 2 2 5 1"};

    public static void main(String[] args) {
        sheetRefused();
        sheetSizes();
        sheetBecomes();
        cellRefused();
        cellEdges();
        cellBits();
        copyBad();
        copyOrder();
        copyOutside();
        copyAll();
        copyAsTheyWere();
        rainsBad();
        rainsOrder();
        rainsOutside();
        rainsLeftOut();
        rainsOfSorts();
        rainsFull();
        taken();
        takenRefused();
        DUE.end("EdgeHostTest");
    }

    /** Promise 29: BAD: no such SHEET, sort; n above 40; -14. */
    private static void sheetRefused() {
        EDGE.after(THREE, "29: SHEETS 0 .. 3", "sheet(-1, 0, 1) = -2 !", "sheet(4, 0, 1) = -2 !",
            "sheet(MAX, 0, 1) = -2 !", "sheet(MIN, 0, 1) = -2 !", "sheet(3, 0, 2) = 1", "sheet(0, 0, 2) = 1");
        EDGE.after(THREE, "29: sorts -1 .. 2", "sheet(0, -2, 1) = -2 !", "sheet(0, 3, 1) = -2 !",
            "sheet(0, MAX, 1) = -2 !", "sheet(0, MIN, 1) = -2 !", "sheet(0, 2, 1) = 1", "sheet(0, -1, 1) = 1");
        EDGE.after(THREE, "29: n 0 .. 40", "sheet(0, 0, 41) = -2 !", "sheet(0, 0, MAX) = -2 !",
            "sheet(0, 0, -1) = -14 !",
            "sheet(0, 0, MIN) = -14 !", "sheet(3, 2, -1) = -14 !", "sheet(3, 2, 41) = -2 !", "sheet(0, 0, 40) = 1",
            "sheet(0, 0, 0) = 1");
        EDGE.after(THREE, "29: BAD ahead of -14", "sheet(4, 0, -1) = -2 !", "sheet(-1, 0, -1) = -2 !",
            "sheet(0, 3, -1) = -2 !", "sheet(0, -2, -1) = -2 !", "sheet(0, -2, MIN) = -2 !");
        EDGE.after(THREE, "29: BAD ahead of missing", "sheet(4, -1, 0) = -2 !", "sheet(-1, -1, 0) = -2 !");
    }

    private static void sheetSizes() {
        for (int sheet = 0; sheet < 4; sheet++) {
            for (int sort = 0; sort < 3; sort++) {
                for (int n : new int[] {0, 1, 2, 39, 40}) {
                    String of = "cell(" + sheet + ", ";
                    EDGE.run("29: " + n + " of sort " + sort, of + "0, 0) = -11 !",
                        "sheet(" + sheet + ", " + sort + ", " + n + ") = 1", of + n + ", 1) = -12 !",
                        of + (n - 1) + ", 1) = " + (n == 0 ? -12 : 1), of + "0, 1) = " + (n == 0 ? -12 : 1),
                        of + "-1, 1) = -12 !");
                }
            }
        }
    }

    private static void sheetBecomes() {
        EDGE.after(THREE, "29: all 0", "rain: 1 1 1", "sheet(0, 0, 6) = 1", "rains(0, 0, 0, 3) = 3", "set(0, 0, 1) = 0",
            "set(0, 1, 1) = 1", "set(0, 2, 1) = 1");
        EDGE.after(THREE, "29: all 0, those that were beyond its end, too", "sheet(0, 0, 2) = 1", "sheet(0, 0, 6) = 1",
            "rain: 1 1 1", "rains(0, 0, 0, 3) = 3", "set(0, 0, 1) = 0", "set(0, 1, 1) = 1", "set(0, 2, 1) = 1");
        EDGE.after(THREE, "29: all 0, the first, too", "sheet(1, 1, 4) = 1", "rain: 1 1 1 1 1", "rains(1, 1, 0, 2) = 2",
            "set(0, 0, 1) = 0", "set(0, 3, 1) = 1", "set(0, 4, 1) = 1");
        EDGE.after(THREE, "29: of another sort", "sheet(0, 2, 6) = 1", "rains(0, 0, 0, 1) = -13",
            "rains(0, 2, 0, 3) = 3");
        for (String n : new String[] {"0", "40", "41", "-1", "MIN", "MAX"}) {
            EDGE.after(THREE, "29: missing, n does not matter", "sheet(1, -1, " + n + ") = 1", "cell(1, 0, 0) = -11 !",
                "rains(1, 1, 0, 0) = -11 !", "sheet(1, -1, " + n + ") = 1", "sheet(1, 1, 2) = 1", "cell(1, 1, 0) = 1");
        }
        EDGE.after(THREE, "29: missing and made anew, all 0", "sheet(0, -1, 0) = 1", "sheet(0, 0, 6) = 1", "rain: 1 1",
            "rains(0, 0, 0, 2) = 2", "set(0, 0, 1) = 0", "set(0, 1, 1) = 1");
    }

    /** Promise 30: BAD: no such SHEET; -11; -12. */
    private static void cellRefused() {
        EDGE.after(THREE, "30: SHEETS 0 .. 3", "cell(-1, 0, 0) = -2 !", "cell(4, 0, 0) = -2 !",
            "cell(MAX, 0, 0) = -2 !", "cell(MIN, 0, 0) = -2 !", "cell(3, 0, 0) = -11 !");
        EDGE.after(THREE, "30: which refusal comes first", "cell(4, -1, 0) = -2 !", "cell(4, 99, 0) = -2 !",
            "cell(3, -1, 0) = -11 !", "cell(3, 0, 0) = -11 !", "cell(3, 99, 0) = -11 !");
    }

    private static void cellEdges() {
        EDGE.after(THREE, "30: items", "cell(0, 0, 9) = 1", "cell(0, 5, 9) = 1", "cell(0, 6, 9) = -12 !",
            "cell(0, -1, 9) = -12 !", "cell(0, MAX, 9) = -12 !", "cell(0, MIN, 9) = -12 !", "cell(0, 39, 9) = -12 !",
            "cell(0, 40, 9) = -12 !");
        EDGE.run("30: 40 items", "sheet(1, 1, 40) = 1", "cell(1, 38, 7) = 1", "cell(1, 39, 5) = 1",
            "cell(1, 40, 5) = -12 !", "rains(1, 1, 38, 1) = 1", "set(0, 7, 0) = 5");
        EDGE.run("30: no items", "sheet(1, 1, 0) = 1", "cell(1, 0, 5) = -12 !", "cell(1, -1, 5) = -12 !");
    }

    /** WATER 0 .. 99 of a VESSEL tells what stands in an item: that of a sort alone is as the item is. */
    private static void bits(int sort, String v, int water) {
        for (int w = Math.max(0, water - 1); w <= Math.max(0, water) + 1; w++) {
            EDGE.run("30: " + v + " in an item of sort " + sort, "vessel(99) = 0", "fill(0, " + w + ") = 0",
                "sheet(0, " + sort + ", 1) = 1", "cell(0, 0, " + v + ") = 1",
                "seen(0, 0, 0) = " + (w == water ? 1 : 0));
        }
    }

    /** The lowest 8, 16 bits, with their sign: 127 and 128, 32767 and 32768. */
    private static void cellBits() {
        bits(0, "255", -1);
        bits(0, "256", 0);
        bits(0, "257", 1);
        bits(0, "-256", 0);
        bits(0, "-255", 1);
        bits(0, "65555", 19);
        bits(0, "MIN", 0);
        bits(0, "MAX", -1);
        bits(1, "256", -1);
        bits(1, "65535", -1);
        bits(1, "65536", 0);
        bits(1, "65537", 1);
        bits(1, "-65536", 0);
        bits(1, "-65500", 36);
        bits(1, "MIN", 0);
        bits(1, "MAX", -1);
        bits(2, "98", 98);
        bits(2, "65536", -1);
        bits(2, "MIN", -1);
        bits(2, "16777221", -1);
        for (int sort = 0; sort < 3; sort++) {
            bits(sort, "0", 0);
            bits(sort, "97", 97);
        }
        // 261 and 65541 are 5 by their lowest 8 or 16 bits alone.
        EDGE.run("30: bytes, shorts, ints as an HOUR", "row: 0 0 261 4", "row: 1 1 261 4", "row: 2 2 65541 4",
            "rains(0, 0, 0, 1) = 1", "rains(1, 1, 0, 1) = 0", "rains(2, 2, 0, 1) = 0", "row: 1 1 65542 4",
            "rains(1, 1, 0, 1) = 1", "set(0, 5, 0) = 4", "set(0, 6, 0) = 4");
    }

    /** Promise 31: BAD: no such SHEET; -11; -13; -12. */
    private static void copyBad() {
        EDGE.after(THREE, "31: SHEETS 0 .. 3", "copy(-1, 0, 0, 0, 1) = -2 !", "copy(4, 0, 0, 0, 1) = -2 !",
            "copy(0, 0, -1, 0, 1) = -2 !", "copy(0, 0, 4, 0, 1) = -2 !", "copy(MAX, 0, 0, 0, 1) = -2 !",
            "copy(MIN, 0, 0, 0, 1) = -2 !", "copy(0, 0, MAX, 0, 1) = -2 !", "copy(0, 0, MIN, 0, 1) = -2 !");
        EDGE.after(THREE, "31: a missing one", "copy(3, 0, 0, 0, 1) = -11 !", "copy(0, 0, 3, 0, 1) = -11 !",
            "copy(3, 0, 3, 0, 0) = -11 !", "copy(3, 0, 0, 0, 0) = -11 !", "copy(0, 0, 3, 0, 0) = -11 !");
        EDGE.after(THREE, "31: of unlike sorts", "copy(0, 0, 1, 0, 1) = -13 !", "copy(1, 0, 0, 0, 1) = -13 !",
            "copy(0, 0, 2, 0, 1) = -13 !", "copy(2, 0, 0, 0, 1) = -13 !", "copy(1, 0, 2, 0, 1) = -13 !",
            "copy(2, 0, 1, 0, 0) = -13 !");
    }

    private static void copyOrder() {
        EDGE.after(THREE, "31: BAD ahead of -11", "copy(4, 0, 3, 0, 1) = -2 !", "copy(3, 0, 4, 0, 1) = -2 !",
            "copy(3, 0, -1, 0, 1) = -2 !");
        EDGE.after(THREE, "31: BAD ahead of -12", "copy(4, -1, 0, 0, 1) = -2 !", "copy(0, 99, 4, 0, 1) = -2 !",
            "copy(4, 0, 0, 0, -1) = -2 !");
        EDGE.after(THREE, "31: -11 ahead of -12", "copy(3, -1, 0, 0, 1) = -11 !", "copy(0, -1, 3, 0, 1) = -11 !",
            "copy(0, 0, 3, -1, 1) = -11 !", "copy(3, 0, 0, 0, -1) = -11 !", "copy(0, 0, 3, 0, 99) = -11 !");
        EDGE.after(THREE, "31: -13 ahead of -12", "copy(0, -1, 1, 0, 1) = -13 !", "copy(0, 0, 1, -1, 1) = -13 !",
            "copy(0, 0, 1, 0, -1) = -13 !", "copy(0, 99, 1, 99, 99) = -13 !");
    }

    private static void copyOutside() {
        String[] two = {"row: 0 0 0 5 1 6 2 7", "row: 1 0 3 8 4 9"};
        EDGE.after(two, "31: i", "copy(0, -1, 1, 0, 1) = -12 !", "copy(0, 6, 1, 0, 1) = -12 !",
            "copy(0, MAX, 1, 0, 1) = -12 !", "copy(0, MIN, 1, 0, 1) = -12 !", "copy(0, 5, 1, 0, 2) = -12 !",
            "copy(0, 5, 1, 0, 1) = 1");
        EDGE.after(two, "31: j", "copy(0, 0, 1, -1, 1) = -12 !", "copy(0, 0, 1, 4, 1) = -12 !",
            "copy(0, 0, 1, MAX, 1) = -12 !", "copy(0, 0, 1, MIN, 1) = -12 !", "copy(0, 0, 1, 3, 2) = -12 !",
            "copy(0, 0, 1, 3, 1) = 1");
        EDGE.after(two, "31: n", "copy(0, 0, 1, 0, -1) = -12 !", "copy(0, 0, 1, 0, MIN) = -12 !",
            "copy(0, 0, 1, 0, 5) = -12 !", "copy(0, 0, 1, 0, MAX) = -12 !", "copy(1, 0, 0, 0, 5) = -12 !",
            "copy(0, 1, 1, 0, MAX) = -12 !", "copy(0, 0, 1, 1, MAX) = -12 !", "copy(0, MAX, 1, MAX, MAX) = -12 !",
            "copy(0, MIN, 1, MIN, MIN) = -12 !", "copy(0, 6, 1, 4, -1) = -12 !", "copy(0, 0, 1, 0, 4) = 4");
        EDGE.after(two, "31: none of them", "copy(0, 0, 1, 0, 0) = 0 ?", "copy(0, 6, 1, 4, 0) = 0 ?",
            "copy(0, 7, 1, 0, 0) = -12 !", "copy(0, 0, 1, 5, 0) = -12 !", "copy(0, -1, 1, 0, 0) = -12 !",
            "copy(0, 0, 1, -1, 0) = -12 !");
        EDGE.run("31: rows of none", "sheet(0, 1, 0) = 1", "sheet(1, 1, 0) = 1", "copy(0, 0, 1, 0, 0) = 0 ?",
            "copy(0, 0, 1, 0, 1) = -12 !", "copy(0, 1, 1, 0, 0) = -12 !", "copy(0, 0, 0, 0, 0) = 0 ?");
    }

    private static void copyAll() {
        for (int sort = 0; sort < 3; sort++) {
            EDGE.run("31: to another one", "row: 0 " + sort + " 0 5 1 6", "row: 3 " + sort + " 3 8 4 9",
                "copy(0, 0, 3, 0, 4) = 4", "rains(3, " + sort + ", 0, 2) = 2", "set(0, 0, 0) = 5", "set(0, 1, 0) = 6",
                "set(0, 3, 0) = 0", "rains(0, " + sort + ", 0, 2) = 2", "set(0, 0, 0) = 5", "set(0, 1, 0) = 6");
            EDGE.run("31: 40 of them", "sheet(0, " + sort + ", 40) = 1", "sheet(1, " + sort + ", 40) = 1",
                "cell(0, 0, 7) = 1", "cell(0, 39, 9) = 1", "cell(0, 38, 8) = 1", "copy(0, 0, 1, 0, 40) = 40",
                "copy(0, 0, 1, 0, 41) = -12 !", "rain: all 3", "rains(1, " + sort + ", 38, 1) = 1", "set(0, 8, 3) = 9",
                "rains(1, " + sort + ", 0, 1) = 1", "set(0, 7, 3) = 0");
        }
        EDGE.run("31: one in the middle", "row: 0 0 1 2 3 4", "row: 1 0 5 6 7 8", "copy(0, 1, 1, 2, 1) = 1",
            "rains(1, 0, 0, 2) = 2", "set(0, 5, 0) = 6", "set(0, 2, 0) = 8");
        EDGE.run("31: what it copied stays as it was", "row: 0 0 1 2", "row: 1 0 3 4", "copy(0, 0, 1, 0, 2) = 2",
            "cell(0, 0, 9) = 1", "rains(1, 0, 0, 1) = 1", "set(0, 1, 0) = 2", "set(0, 9, 0) = 0");
    }

    private static void copyAsTheyWere() {
        EDGE.run("31: upward on itself", "row: 0 0 1 2 3 4 5", "copy(0, 0, 0, 1, 4) = 4", "rains(0, 0, 1, 2) = 2",
            "set(0, 1, 0) = 2", "set(0, 3, 0) = 4", "rains(0, 0, 0, 1) = 1", "set(0, 1, 0) = 1");
        EDGE.run("31: downward on itself", "row: 0 0 1 2 3 4 5", "copy(0, 1, 0, 0, 4) = 4", "rains(0, 0, 0, 2) = 2",
            "set(0, 2, 0) = 3", "set(0, 4, 0) = 5", "rains(0, 0, 3, 1) = 1", "set(0, 5, 0) = 5");
        EDGE.run("31: on itself where it is", "row: 0 0 1 2", "copy(0, 0, 0, 0, 2) = 2 ?");
    }

    /** Promise 32: BAD: no such SHEET, sort, n. */
    private static void rainsBad() {
        EDGE.after(THREE, "32: SHEETS 0 .. 3", "rains(-1, 0, 0, 1) = -2 !", "rains(4, 0, 0, 1) = -2 !",
            "rains(MAX, 0, 0, 1) = -2 !", "rains(MIN, 0, 0, 1) = -2 !");
        EDGE.after(THREE, "32: sorts 0 .. 2", "rains(0, -1, 0, 1) = -2 !", "rains(0, 3, 0, 1) = -2 !",
            "rains(0, MAX, 0, 1) = -2 !", "rains(0, MIN, 0, 1) = -2 !", "rains(0, 0, 0, 1) = 1",
            "rains(2, 2, 0, 1) = 1");
        EDGE.after(THREE, "32: n 0 .. 20", "rains(0, 0, 0, -1) = -2 !", "rains(0, 0, 0, 21) = -2 !",
            "rains(0, 0, 0, MAX) = -2 !", "rains(0, 0, 0, MIN) = -2 !", "rains(0, 0, 0, 0) = 0 ?",
            "rains(0, 0, 0, 20) = -12", "rains(0, 0, 99, 0) = 0 ?", "rains(0, 0, MIN, 0) = 0 ?");
        EDGE.after(THREE, "32: a missing one", "rains(3, 0, 0, 1) = -11 !", "rains(3, 1, 0, 0) = -11 !",
            "rains(3, 2, -1, 20) = -11 !");
        EDGE.after(THREE, "32: of another sort", "rains(0, 1, 0, 1) = -13 !", "rains(0, 2, 0, 1) = -13 !",
            "rains(1, 0, 0, 1) = -13 !", "rains(1, 2, 0, 0) = -13 !", "rains(2, 0, 0, 1) = -13 !",
            "rains(2, 1, 0, 1) = -13 !");
    }

    private static void rainsOrder() {
        EDGE.after(THREE, "32: BAD ahead of -13", "rains(0, 3, 0, 1) = -2 !", "rains(0, 1, 0, 21) = -2 !",
            "rains(0, 1, 0, -1) = -2 !", "rains(4, 1, 0, 1) = -2 !");
        EDGE.after(THREE, "32: BAD ahead of -11", "rains(3, 3, 0, 1) = -2 !", "rains(3, -1, 0, 1) = -2 !",
            "rains(3, 0, 0, 21) = -2 !", "rains(3, 0, 0, -1) = -2 !");
        EDGE.after(THREE, "32: BAD ahead of -12", "rains(0, 0, -1, 21) = -2 !", "rains(0, 3, 99, 1) = -2 !");
        EDGE.after(THREE, "32: -13 ahead of -12", "rains(0, 1, -1, 1) = -13 !", "rains(0, 2, 99, 20) = -13 !");
        EDGE.after(THREE, "32: -11 ahead of -12", "rains(3, 0, -1, 1) = -11 !", "rains(3, 0, 99, 20) = -11 !");
    }

    /** A pair of which the RAIN, or both are outside; what stood ahead became so. */
    private static void rainsOutside() {
        EDGE.after(THREE, "32: from", "rains(0, 0, -1, 1) = -12 !", "rains(0, 0, -2, 3) = -12 !",
            "rains(0, 0, 5, 1) = -12 !", "rains(0, 0, 6, 1) = -12 !", "rains(0, 0, 7, 1) = -12 !",
            "rains(0, 0, MAX, 1) = -12 !", "rains(0, 0, 2147483646, 2) = -12 !", "rains(0, 0, MIN, 20) = -12 !",
            "rains(0, 0, -40, 20) = -12 !", "rains(0, 0, 4, 1) = 1", "set(0, 2, 0) = 7");
        EDGE.after(THREE, "32: what stood ahead", "rains(0, 0, 0, 4) = -12", "set(0, 0, 0) = 5", "set(0, 1, 0) = 6",
            "set(0, 2, 0) = 7");
        EDGE.after(THREE, "32: what stood ahead, from 2 on", "rains(0, 0, 2, 20) = -12", "set(0, 0, 0) = 0",
            "set(0, 1, 0) = 6", "set(0, 2, 0) = 7");
        EDGE.run("32: no items", "sheet(0, 0, 0) = 1", "rains(0, 0, 0, 0) = 0 ?", "rains(0, 0, 0, 1) = -12 !");
        EDGE.run("32: one item", "row: 0 0 4", "rains(0, 0, 0, 0) = 0 ?", "rains(0, 0, 0, 1) = -12 !",
            "rains(0, 0, 1, 1) = -12 !");
        EDGE.run("32: three items", "row: 0 0 4 5 6", "rains(0, 0, 0, 2) = -12", "set(0, 4, 0) = 5",
            "rains(0, 0, 1, 1) = 1", "set(0, 5, 0) = 6", "rains(0, 0, 2, 1) = -12 !");
    }

    /** Others than HOURS 0 .. 23 and RAIN 0 .. 9 are left out, and those behind them aren't. */
    private static void rainsLeftOut() {
        EDGE.run("32: HOURS", "row: 0 2 -1 5 24 5 0 5 23 5", "rains(0, 2, 0, 4) = 2", "set(0, 0, 0) = 5",
            "set(0, 23, 0) = 5", "rains(0, 2, 0, 2) = 0 ?", "rains(0, 2, 0, 1) = 0 ?");
        EDGE.run("32: RAIN", "rain: all 1", "row: 0 2 5 -1 6 10 7 0 8 9", "rains(0, 2, 0, 4) = 2", "set(0, 5, 0) = 1",
            "set(0, 6, 0) = 1", "set(0, 7, 1) = 0", "set(0, 8, 1) = 9");
        EDGE.run("32: as it was is so, too", "rain: all 4", "row: 0 2 5 4 6 4", "rains(0, 2, 0, 2) = 2 ?");
        EDGE.run("32: the last tells", "row: 0 2 5 1 5 2 5 3", "rains(0, 2, 0, 3) = 3", "set(0, 5, 0) = 3");
        EDGE.run("32: far off", "sheet(0, 2, 6) = 1", "cell(0, 0, MAX) = 1", "cell(0, 1, 3) = 1", "cell(0, 2, MIN) = 1",
            "cell(0, 4, 3) = 1", "cell(0, 5, MAX) = 1", "rains(0, 2, 0, 3) = 0 ?");
    }

    private static void rainsOfSorts() {
        for (int sort = 0; sort < 3; sort++) {
            EDGE.run("32: sort " + sort, "row: 1 " + sort + " 9 3", "rains(1, " + sort + ", 0, 1) = 1",
                "set(0, 9, 0) = 3", "rains(1, " + (sort + 1) % 3 + ", 0, 1) = -13 !",
                "rains(1, " + (sort + 2) % 3 + ", 0, 1) = -13 !");
        }
    }

    private static void rainsFull() {
        EDGE.run("32: twenty of forty items",
            "row: 1 0 0 1 1 2 2 3 3 4 4 5 5 6 6 7 7 8 8 9 9 1 10 1 11 2 12 3 13 4 14 5 "
            + "15 6 16 7 17 8 18 9 23 5", "rains(1, 0, 0, 20) = 20", "set(0, 0, 0) = 1", "set(0, 18, 0) = 9",
            "set(0, 19, 0) = 0", "set(0, 23, 0) = 5", "rains(1, 0, 0, 21) = -2 !", "rains(1, 0, 2, 20) = -12",
            "rains(1, 0, 38, 1) = 1", "rains(1, 0, 39, 1) = -12 !", "rains(1, 0, 40, 1) = -12 !");
    }

    /** Promise 33: which KIND is under which. */
    private static void taken() {
        String[] under = {"100000", "110000", "101000", "110100", "101010", "110001"};
        for (int kind = 0; kind < 6; kind++) {
            for (int k = 0; k < 6; k++) {
                EDGE.run("33: KIND " + kind + " for " + k, "drip(" + kind + ", 75, 0) = 0",
                    "taken(0, " + k + ") = " + (under[kind].charAt(k) == '1' ? "7 ?" : "-13 !"));
            }
        }
        EDGE.run("33: its NUMBER", "drip(3, 0, 0) = 0", "taken(0, 1) = 0", "set(4, 0, 9) = 0", "taken(0, 0) = 9");
    }

    private static void takenRefused() {
        EDGE.run("33: no DRIPS", "taken(0, 0) = -11 !", "taken(-1, 0) = -11 !", "taken(0, 6) = -2 !",
            "taken(0, -1) = -2 !");
        EDGE.run("33: six DRIPS", "drip(1, 10, 0) = 0", "drip(1, 20, 0) = 1", "drip(1, 30, 0) = 2",
            "drip(1, 40, 0) = 3",
            "drip(1, 50, 0) = 4", "drip(1, 60, 0) = 5", "taken(5, 1) = 6", "taken(6, 1) = -11 !",
            "taken(-1, 1) = -11 !",
            "taken(MAX, 0) = -11 !", "taken(MIN, 0) = -11 !", "taken(5, -1) = -2 !", "taken(5, 6) = -2 !",
            "taken(5, MAX) = -2 !", "taken(5, MIN) = -2 !", "taken(6, 6) = -2 !", "taken(-1, -1) = -2 !",
            "taken(6, 2) = -11 !", "taken(5, 2) = -13 !", "taken(0, 0) = 1");
    }
}
