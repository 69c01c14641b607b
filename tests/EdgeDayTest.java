/**
 * Promises 12 to 14, and what "Terms" tells of AN HOUR and THE DAY: each edge on both sides, empty and full,
 * what comes first of like ones, which refusal comes first, and that neither a refusal nor a question changes
 * anything.
 */
public final class EdgeDayTest {
    private static final Due DUE = new Due();
    private static final Script EDGE = new Script(DUE);
    /** A DRIP of RATE 1 on PLACE 2 above a VESSEL of SIZE 10, RAIN 1 in each HOUR. */
    private static final String[] ONE = {"drip(0, 1, 2) = 0", "vessel(10) = 0", "put(0, 2) = -1", "rain: all 1"};
    private static final String[] FIVE = {"vessel(1) = 0", "vessel(20) = 1", "vessel(30) = 2", "vessel(40) = 3",
        "vessel(99) = 4", "put(0, 0) = -1", "put(1, 1) = -1", "put(2, 2) = -1", "put(3, 3) = -1", "put(4, 7) = -1"};

    public static void main(String[] args) {
        dayRefused();
        emptyDay();
        first();
        room();
        overOnPlaces();
        harmOnlyIfOver();
        bounds();
        upHours();
        emptiedAhead();
        goneBegins();
        noneToEmpty();
        handsAllowed();
        likeOnes();
        leastRoom();
        names();
        largest();
        waterRefused();
        waterBehindHours();
        passBounds();
        passes();
        DUE.end("EdgeDayTest");
    }

    /** Promise 12. */
    private static void dayRefused() {
        EDGE.after(ONE, "12: what 0 .. 5", "day(-1) = -2 !", "day(6) = -2 !", "day(MAX) = -2 !", "day(MIN) = -2 !",
            "day(0) = 28 ?", "day(1) = 0 ?", "day(2) = 28 ?", "day(3) = 14 ?", "day(4) = 10 ?", "day(5) = 24 ?");
    }

    private static void emptyDay() {
        String[] none = {"day(0) = 0 ?", "day(1) = 0 ?", "day(2) = 0 ?", "day(3) = 0 ?", "day(4) = -1 ?",
            "day(5) = 0 ?"};
        EDGE.run("12: nothing at all", none);
        EDGE.after(new String[] {"rain: all 9"}, "12: rain, no DRIPS", none);
        EDGE.after(new String[] {"drip(0, 99, 0) = 0"}, "12: a DRIP, no rain", none);
        EDGE.after(new String[] {"rain: all 9", "drip(0, 90, 0) = 0"}, "12: a DRIP of RATE 0", none);
        EDGE.after(FIVE, "12: VESSELS, no DRIPS", none);
    }

    private static void first() {
        for (int hour = 0; hour < 24; hour++) {
            EDGE.run("12: FIRST", "drip(0, 1, 7) = 0", "set(0, " + hour + ", 1) = 0", "day(4) = " + hour);
        }
        EDGE.after(ONE, "12: FIRST when it is full", "day(4) = 10", "fill(0, 10) = 0", "day(4) = 0", "fill(0, 1) = 10",
            "day(4) = 9", "vessel(24) = 1", "put(0, -1) = 2", "put(1, 2) = -1", "day(4) = -1", "fill(1, 1) = 0",
            "day(4) = 23", "fill(1, 2) = 1", "day(4) = 22");
    }

    /** As long as it has room: one pint less, just as much, one more. */
    private static void room() {
        for (int water = 0; water <= 10; water++) {
            for (int fall = 4; fall <= 6; fall++) {
                int over = Math.max(0, water + fall - 10);
                EDGE.run("12: room", "vessel(10) = 0", "put(0, 0) = -1", "fill(0, " + water + ") = 0",
                    "drip(0, " + fall + ", 0) = 0", "set(0, 23, 1) = 0", "day(3) = " + over, "day(0) = " + 2 * over,
                    "day(4) = " + (over > 0 ? 23 : -1), "day(5) = " + fall,
                    "water(0, 23, 0) = " + (water + fall - over), "water(0, 22, 0) = " + water,
                    "water(0, 23, 1) = " + over);
            }
        }
        EDGE.run("12: SIZE 1", "vessel(1) = 0", "put(0, 5) = -1", "drip(0, 1, 5) = 0", "rain: 1 1", "day(3) = 1",
            "day(4) = 1");
        EDGE.run("12: SIZE 99", "vessel(99) = 0", "put(0, 5) = -1", "drip(0, 9, 5) = 0", "rain: all 1", "day(3) = 117",
            "day(4) = 11", "water(5, 10, 1) = 0", "water(0, 10, 0) = 99");
    }

    /** All of it where none stands; each PLACE for itself; what falls there falls together. */
    private static void overOnPlaces() {
        for (int place = 0; place < 8; place++) {
            String on = place + ") = ";
            EDGE.run("12: PLACE " + place, "drip(0, 2, " + on + "0", "drip(0, 3, " + on + "1", "vessel(4) = 0",
                "set(0, 9, 1) = 0", "day(3) = 5", "put(0, " + (place + 1) % 8 + ") = -1", "day(3) = 5",
                "put(0, " + place + ") = " + (place + 1) % 8, "day(3) = 1", "water(" + place + ", 9, 1) = 1",
                "fill(0, 4) = 0", "day(3) = 5", "put(0, -1) = " + place, "fill(0, 0) = 4", "day(3) = 5",
                "water(0, 23, 0) = 0");
        }
        EDGE.run("12: two PLACES, two harms", "rule: falls rate*rain;harms 7;wakes 1;", "drip(0, 2, 0) = 0",
            "drip(0, 3, 0) = 1", "set(0, 9, 1) = 0", "day(0) = 7", "set(6, 1, 7) = 0", "day(0) = 14",
            "set(0, 10, 1) = 0", "day(0) = 28");
    }

    private static void harmOnlyIfOver() {
        EDGE.run("12: harms is asked anew in each HOUR, on each PLACE",
            "rule: falls rain;harms place*10+hour;wakes 0;", "drip(0, 1, 1) = 0", "drip(0, 1, 0) = 1", "rain: 1 1",
            "day(0) = 22", "set(1, 0, 3) = 0", "day(0) = 22");
        EDGE.run("12: harms is asked anew by each RULE", "rule: falls rain;harms size*3;wakes 0;",
            "rule: falls rain;harms size+rain*2+20;wakes 0;", "drip(0, 1, 0) = 0", "drip(0, 1, 7) = 1", "rain: 4",
            "set(0, 23, 4) = 0", "day(0) = 128", "force(1) = 2", "day(0) = 48", "force(0) = 1", "day(0) = 32");
        EDGE.run("12: no harm, if none is OVER", "rule: falls rate*rain;harms 7;wakes 1;", "drip(0, 5, 3) = 0",
            "vessel(5) = 0", "put(0, 3) = -1", "set(0, 4, 1) = 0", "day(0) = 0", "set(0, 4, 0) = 1", "day(0) = 0",
            "set(0, 4, 1) = 0", "fill(0, 1) = 0", "day(0) = 7", "day(3) = 1");
        EDGE.run("12: OVER, though it harms nothing", "rule: falls rate*rain;harms 0-5;wakes 0-5;",
            "drip(0, 5, 3) = 0", "set(0, 4, 1) = 0", "set(1, 0, 3) = 0", "day(0) = 0", "day(1) = 0", "day(2) = 0",
            "day(3) = 5", "day(4) = 4");
    }

    /** harms and wakes tell 0 .. 999, else the bound. */
    private static void bounds() {
        String[] e = {"0-9999", "0-1", "0", "1", "998", "999", "1000", "9999", "9999*9999*22", "9999*9999*43"};
        int[] due = {0, 0, 0, 1, 998, 999, 999, 999, 0, 999};
        for (int i = 0; i < e.length; i++) {
            EDGE.run("12: harms " + e[i], "rule: falls rate*rain;harms " + e[i] + ";wakes 1;", "drip(0, 1, 3) = 0",
                "set(0, 4, 1) = 0", "day(0) = " + due[i], "day(2) = " + due[i], "set(0, 5, 1) = 0",
                "day(0) = " + 2 * due[i], "day(1) = 0");
            EDGE.run("12: wakes " + e[i], "rule: falls rate*rain;harms 1;wakes " + e[i] + ";", "set(1, 0, 16) = 0",
                "day(1) = " + due[i], "day(2) = " + due[i], "set(1, 0, 8388609) = 16", "day(1) = " + 2 * due[i],
                "day(0) = 0");
        }
    }

    /** UP: each bit is its HOUR. */
    private static void upHours() {
        for (int hour = 0; hour < 24; hour++) {
            int caught = Math.min(10, hour) + Math.min(10, 24 - hour);
            EDGE.after(ONE, "12: UP in HOUR " + hour, "set(1, 0, " + (1 << hour) + ") = 0", "day(1) = 5",
                "day(3) = " + (24 - caught), "day(2) = " + (2 * (24 - caught) + 5), "water(0, " + hour + ", 0) = 1");
        }
        EDGE.after(ONE, "12: UP in none, in all", "set(1, 0, 0) = 0", "day(1) = 0", "set(1, 0, 16777215) = 0",
            "day(1) = 120", "day(3) = 0", "water(0, 23, 0) = 1");
    }

    private static void emptiedAhead() {
        EDGE.after(ONE, "12: one gets up ahead of what falls", "fill(0, 10) = 0", "set(1, 0, 1) = 0", "day(4) = 10",
            "water(0, 0, 0) = 1", "water(2, 0, 1) = 0", "set(1, 0, 2) = 1", "water(0, 0, 0) = 10",
            "water(2, 0, 1) = 1", "water(0, 1, 0) = 1");
    }

    /** gone of harms is 0 in the HOUR in which one gets up; wakes is still told the one before. */
    private static void goneBegins() {
        String rule = "rule: falls rate*rain;harms gone*10;wakes gone+100;";
        for (int hour = 0; hour < 24; hour++) {
            for (int up : new int[] {0, 1, 12, 22, 23}) {
                EDGE.run("12: gone", rule, "drip(0, 1, 0) = 0", "set(0, " + hour + ", 1) = 0",
                    "day(0) = " + 10 * hour, "set(1, 0, " + (1 << up) + ") = 0",
                    "day(0) = " + 10 * (hour < up ? hour : hour - up), "day(1) = " + (100 + up));
            }
        }
        EDGE.run("12: gone since the last time", rule, "set(1, 0, 7) = 0", "day(1) = 302", "set(1, 0, 8388609) = 7",
            "day(1) = 223", "set(1, 0, 16777215) = 8388609", "day(1) = 2423");
    }

    /** Of those that stand on a PLACE and have any WATER. */
    private static void noneToEmpty() {
        EDGE.after(FIVE, "12: none has any", "set(1, 0, 1) = 0", "set(2, 0, 5) = 2", "day(1) = 5",
            "water(4, 0, 0) = 0");
        EDGE.after(FIVE, "12: what stands on none stays", "fill(4, 99) = 0", "fill(1, 1) = 0", "put(4, -1) = 7",
            "set(1, 0, 1) = 0", "set(2, 0, 1) = 2", "water(4, 0, 0) = 99", "water(1, 0, 0) = 0", "put(4, 0) = -3",
            "put(4, 6) = -1", "water(4, 0, 0) = 0", "water(1, 0, 0) = 1");
        EDGE.after(FIVE, "12: least room, but no WATER", "set(3, 0, 1) = 0", "set(2, 0, 1) = 2", "set(1, 0, 1) = 0",
            "fill(4, 1) = 0", "water(4, 0, 0) = 0", "fill(0, 1) = 0", "water(4, 0, 0) = 1", "water(0, 0, 0) = 0");
    }

    /** HANDS 1 .. 5: just as many are emptied. */
    private static void handsAllowed() {
        for (int hands = 1; hands <= 5; hands++) {
            for (int sort = 0; sort <= 1; sort++) {
                String[] lines = new String[14];
                lines[0] = "fill(0, 1) = 0";
                lines[1] = "fill(1, 19) = 0";
                lines[2] = "fill(2, 28) = 0";
                lines[3] = "fill(3, 37) = 0";
                lines[4] = "fill(4, 95) = 0";
                lines[5] = "set(2, 0, " + hands + ") = 2";
                lines[6] = "set(3, 0, " + sort + ") = 0";
                lines[7] = "set(1, 0, 1) = 0";
                lines[8] = "water(0, 0, 0) = " + (sort == 0 ? hands >= 5 ? 0 : 1 : 0);
                lines[9] = "water(1, 0, 0) = " + (sort == 0 ? hands >= 4 ? 0 : 19 : hands >= 2 ? 0 : 19);
                lines[10] = "water(2, 0, 0) = " + (hands >= 3 ? 0 : 28);
                lines[11] = "water(3, 0, 0) = " + (sort == 0 ? hands >= 2 ? 0 : 37 : hands >= 4 ? 0 : 37);
                lines[12] = "water(4, 0, 0) = " + (sort == 0 ? 0 : hands >= 5 ? 0 : 95);
                lines[13] = "day(1) = 5";
                EDGE.after(FIVE, "12: HANDS " + hands + ", SORT " + sort, lines);
            }
        }
    }

    /** Of like ones the first: by most WATER and by least room. */
    private static void likeOnes() {
        for (int hands = 1; hands <= 3; hands++) {
            String hold = "set(2, 0, " + hands + ") = 2";
            EDGE.after(FIVE, "12: like WATER", hold, "set(1, 0, 1) = 0", "fill(1, 6) = 0", "fill(2, 6) = 0",
                "fill(3, 6) = 0", "fill(4, 5) = 0", "water(1, 0, 0) = 0", "water(2, 0, 0) = " + (hands >= 2 ? 0 : 6),
                "water(3, 0, 0) = " + (hands >= 3 ? 0 : 6), "water(4, 0, 0) = 5");
            EDGE.after(FIVE, "12: like room", hold, "set(1, 0, 1) = 0", "set(3, 0, 1) = 0", "fill(1, 4) = 0",
                "fill(2, 14) = 0", "fill(3, 24) = 0", "fill(4, 82) = 0", "water(1, 0, 0) = 0",
                "water(2, 0, 0) = " + (hands >= 2 ? 0 : 14), "water(3, 0, 0) = " + (hands >= 3 ? 0 : 24),
                "water(4, 0, 0) = 82");
        }
        EDGE.run("12: by number, not by PLACE", "vessel(9) = 0", "vessel(9) = 1", "put(0, 7) = -1", "put(1, 0) = -1",
            "fill(0, 4) = 0", "fill(1, 4) = 0", "set(1, 0, 1) = 0", "set(2, 0, 1) = 2", "water(0, 0, 0) = 0",
            "water(1, 0, 0) = 4", "set(3, 0, 1) = 0", "water(0, 0, 0) = 0", "water(1, 0, 0) = 4");
    }

    private static void leastRoom() {
        EDGE.after(FIVE, "12: no room at all", "set(1, 0, 1) = 0", "set(2, 0, 1) = 2", "set(3, 0, 1) = 0",
            "fill(4, 98) = 0", "fill(0, 1) = 0", "water(0, 0, 0) = 0", "water(4, 0, 0) = 98", "set(3, 0, 0) = 1",
            "water(0, 0, 0) = 1", "water(4, 0, 0) = 0", "fill(4, 99) = 98", "set(3, 0, 1) = 0", "water(0, 0, 0) = 0",
            "water(4, 0, 0) = 99");
    }

    /** What the names are in harms and wakes. */
    private static void names() {
        String[] names = {"rain", "hour", "place", "rate", "size", "gone"};
        int[] harms = {2, 21, 6, 0, 18, 16};
        int[] wakes = {3, 5, 0, 0, 0, 5};
        for (int i = 0; i < 6; i++) {
            EDGE.run("12: " + names[i] + " in harms and wakes",
                "rule: falls rate*(hour=21)*5;harms 7+" + names[i] + ";wakes 9+" + names[i] + ";", "drip(0, 4, 6) = 0",
                "vessel(2) = 0", "put(0, 6) = -1", "set(0, 21, 2) = 0", "set(0, 5, 3) = 0", "set(1, 0, 32) = 0",
                "day(0) = " + (7 + harms[i]), "day(1) = " + (9 + wakes[i]), "day(3) = 18");
        }
    }

    /** As much as there can be: nothing of it wraps or is cut. */
    private static void largest() {
        EDGE.run("12: six DRIPS of 200 in each HOUR", "rule: falls 99;harms 999;wakes 999;", "drip(3, 0, 0) = 0",
            "drip(3, 0, 1) = 1", "drip(3, 0, 2) = 2", "drip(3, 0, 3) = 3", "drip(3, 0, 4) = 4", "drip(3, 0, 5) = 5",
            "set(1, 0, 16777215) = 0", "day(0) = 143856", "day(1) = 23976", "day(2) = 167832", "day(3) = 28800",
            "day(4) = 0", "day(5) = 28800", "water(5, 23, 1) = 200", "pass(24) = 167832", "more(5, 9) = 0",
            "tile(5) = 23976");
    }

    /** Promise 13. */
    private static void waterRefused() {
        EDGE.run("13: no VESSEL, but PLACES", "water(0, 0, 0) = -2 !", "water(0, 0, 1) = 0 ?", "water(7, 23, 1) = 0 ?",
            "water(8, 0, 1) = -2 !", "water(-1, 0, 1) = -2 !");
        EDGE.after(FIVE, "13: VESSELS", "water(4, 0, 0) = 0 ?", "water(5, 0, 0) = -2 !", "water(-1, 0, 0) = -2 !",
            "water(MAX, 0, 0) = -2 !", "water(MIN, 0, 0) = -2 !", "water(5, 0, 1) = 0", "water(7, 0, 0) = -2 !");
        EDGE.after(FIVE, "13: HOURS, what, PLACES", "water(0, 0, -1) = -2 !", "water(0, 0, 2) = -2 !",
            "water(0, 0, MAX) = -2 !", "water(0, 0, MIN) = -2 !", "water(0, -1, 0) = -2 !", "water(0, 24, 0) = -2 !",
            "water(0, -1, 1) = -2 !", "water(0, 24, 1) = -2 !", "water(0, MAX, 0) = -2 !", "water(0, MIN, 1) = -2 !",
            "water(MAX, 0, 1) = -2 !", "water(MIN, 0, 1) = -2 !", "water(0, 23, 0) = 0 ?", "water(0, 23, 1) = 0 ?");
    }

    private static void waterBehindHours() {
        String[] lines = new String[72];
        for (int hour = 0; hour < 24; hour++) {
            lines[3 * hour] = "water(0, " + hour + ", 0) = " + Math.min(10, hour + 1);
            lines[3 * hour + 1] = "water(2, " + hour + ", 1) = " + (hour < 10 ? 0 : 1);
            lines[3 * hour + 2] = "water(3, " + hour + ", 1) = 0";
        }
        EDGE.after(ONE, "13: WATER behind each HOUR", lines);
        EDGE.after(ONE, "13: from WATER as it is", "fill(0, 9) = 0", "water(0, 0, 0) = 10 ?", "water(2, 0, 1) = 0 ?",
            "water(2, 1, 1) = 1 ?", "told(0, 6) = 9");
    }

    /** Promise 14. */
    private static void passBounds() {
        EDGE.after(ONE, "14: n 0 .. 24", "pass(-1) = -2 !", "pass(25) = -2 !", "pass(MAX) = -2 !", "pass(MIN) = -2 !",
            "pass(0) = 0 ?", "told(0, 6) = 0", "pass(1) = 0", "told(0, 6) = 1", "pass(24) = 30", "told(0, 6) = 10",
            "pass(24) = 48", "pass(0) = 0 ?", "pass(25) = -2 !");
        for (int n = 0; n <= 24; n++) {
            EDGE.after(ONE, "14: n " + n, "pass(" + n + ") = " + 2 * Math.max(0, n - 10),
                "told(0, 6) = " + Math.min(10, n), "count(8) = " + Math.min(10, n));
        }
    }

    private static void passes() {
        EDGE.after(ONE, "14: HOUR 0 first, gone 0 each time", "rule: falls rate*rain;harms gone+hour*10;wakes gone+1;",
            "fill(0, 10) = 0", "pass(3) = 33", "pass(3) = 33", "set(1, 0, 6) = 0", "pass(1) = 0", "pass(2) = 2",
            "told(0, 6) = 1", "pass(3) = 4", "pass(2) = 2");
        EDGE.after(ONE, "14: all but WATER stays", "set(1, 0, 4) = 0", "set(2, 0, 3) = 2", "pass(24) = 29",
            "told(0, 6) = 10", "told(0, 5) = 2", "told(0, 4) = 10", "count(2) = 4", "count(3) = 3", "count(4) = 0",
            "set(0, 0, 1) = 1", "set(0, 23, 1) = 1", "told(0, 3) = 2", "count(0) = 1");
        EDGE.after(FIVE, "14: five VESSELS", "drip(0, 2, 7) = 0", "rain: 1 1 1", "fill(0, 1) = 0", "fill(3, 40) = 0",
            "pass(2) = 0", "told(0, 6) = 1", "told(3, 6) = 40", "told(4, 6) = 4", "put(4, -1) = 7", "pass(3) = 12",
            "told(4, 6) = 4");
    }
}
