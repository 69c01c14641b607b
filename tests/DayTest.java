/** Promises 12 to 14: the day, water in it, and hours that truly pass. */
public final class DayTest {
    private static final Due DUE = new Due();
    private static final int LEAST = Integer.MIN_VALUE;
    private static final int MOST = Integer.MAX_VALUE;

    public static void main(String[] args) {
        plainDay();
        dripsTogether();
        startsFromWater();
        gettingUp();
        handsAndSorts();
        goneInHarms();
        goneInWakes();
        namesOfHarmsAndWakes();
        bounds();
        nothingStale();
        dayIsThought();
        waters();
        refused();
        passes();
        passRefused();
        DUE.end("DayTest");
    }

    private static void day(String what, UnderTheRoof x, int... due) {
        for (int i = 0; i < due.length; i++) {
            DUE.is("12: " + what + ", day(" + i + ")", x.day(i), due[i]);
        }
    }

    /** Promise 12. */
    private static void plainDay() {
        UnderTheRoof x = new UnderTheRoof();
        day("nothing", x, 0, 0, 0, 0, -1, 0);
        x.drip(0, 3, 4);
        day("no rain", x, 0, 0, 0, 0, -1, 0);
        Roof.rain(x, 0, 2, 1, 4);
        day("no vessel", x, 42, 0, 42, 21, 1, 21);
        x.vessel(8);
        day("a vessel that stands nowhere", x, 42, 0, 42, 21, 1, 21);
        x.put(0, 5);
        day("a vessel elsewhere", x, 42, 0, 42, 21, 1, 21);
        x.put(0, 4);
        day("a vessel beneath", x, 26, 0, 26, 13, 2, 21);
        x.set(0, 23, 1);
        x.vessel(30);
        x.put(0, -1);
        x.put(1, 4);
        day("a large one", x, 0, 0, 0, 0, -1, 24);
        UnderTheRoof y = new UnderTheRoof();
        y.drip(0, 1, 7);
        y.set(0, 23, 1);
        day("the last hour, the last place", y, 2, 0, 2, 1, 23, 1);
        UnderTheRoof z = new UnderTheRoof();
        z.drip(0, 1, 0);
        z.set(0, 0, 1);
        day("the first hour, the first place", z, 2, 0, 2, 1, 0, 1);
    }

    private static void dripsTogether() {
        UnderTheRoof x = new UnderTheRoof();
        x.drip(0, 3, 4);
        x.drip(0, 5, 4);
        x.drip(2, 2, 3);
        x.vessel(9);
        x.put(0, 4);
        Roof.rain(x, 1, 0, 1);
        // RAIN 1 is above NUMBER 0: the WANDERING one falls 1 on PLACE 4, too.
        day("three on one place", x, 18, 0, 18, 9, 2, 18);
        // Together they are over by one harm of 9, not by three.
        Roof.rule(x, "falls rate*rain;harms 10;wakes 5;");
        day("one harm a place and hour", x, 10, 0, 10, 9, 2, 18);
        x.drip(0, 1, 0);
        day("two places", x, 30, 0, 30, 11, 0, 20);
    }

    private static void startsFromWater() {
        UnderTheRoof x = new UnderTheRoof();
        x.drip(0, 1, 2);
        x.vessel(10);
        x.put(0, 2);
        x.fill(0, 8);
        Roof.rainAll(x, 1);
        day("from WATER 8", x, 44, 0, 44, 22, 2, 24);
        x.fill(0, 10);
        day("from the brim", x, 48, 0, 48, 24, 0, 24);
    }

    private static void gettingUp() {
        UnderTheRoof x = new UnderTheRoof();
        x.drip(0, 1, 2);
        x.vessel(10);
        x.put(0, 2);
        Roof.rainAll(x, 1);
        x.set(1, 0, 1 << 10);
        // Emptied ahead of what falls in HOUR 10: full again behind HOUR 19.
        day("once", x, 8, 5, 13, 4, 20, 24);
        x.set(1, 0, 1 << 11);
        day("an hour late", x, 8, 5, 13, 4, 10, 24);
        x.set(1, 0, 1 << 10 | 1 << 20);
        day("twice", x, 0, 10, 10, 0, -1, 24);
        x.set(1, 0, 1 | 1 << 23);
        day("first and last hour", x, 26, 10, 36, 13, 10, 24);
        x.set(1, 0, (1 << 24) - 1);
        day("each hour", x, 0, 120, 120, 0, -1, 24);
        x.put(0, -1);
        x.fill(0, 7);
        x.set(1, 0, 1);
        day("one that stands nowhere is not emptied", x, 48, 5, 53, 24, 0, 24);
        DUE.is("13: it keeps its water", x.water(0, 23, 0), 7);
    }

    private static UnderTheRoof five(int... water) {
        UnderTheRoof x = new UnderTheRoof();
        int[] sizes = {20, 10, 30, 12, 40};
        for (int v = 0; v < 5; v++) {
            x.vessel(sizes[v]);
            x.put(v, v + 1);
            x.fill(v, water[v]);
        }
        x.set(1, 0, 2);
        return x;
    }

    private static void emptied(String what, UnderTheRoof x, int... due) {
        for (int v = 0; v < 5; v++) {
            DUE.is("12: " + what + ", ahead, vessel " + v, x.water(v, 0, 0), x.told(v, 6));
            DUE.is("12: " + what + ", vessel " + v, x.water(v, 1, 0), due[v]);
        }
    }

    private static void handsAndSorts() {
        UnderTheRoof x = five(9, 9, 9, 10, 8);
        emptied("two fullest", x, 0, 9, 9, 0, 8);
        x.set(2, 0, 1);
        emptied("the fullest", x, 9, 9, 9, 0, 8);
        x.set(2, 0, 4);
        emptied("four fullest", x, 0, 0, 0, 0, 8);
        x.set(2, 0, 5);
        emptied("all", x, 0, 0, 0, 0, 0);
        x.set(3, 0, 1);
        x.set(2, 0, 1);
        emptied("of least room", x, 9, 0, 9, 10, 8);
        x.set(2, 0, 2);
        emptied("two of least room", x, 9, 0, 9, 0, 8);
        x.set(2, 0, 3);
        emptied("three of least room", x, 0, 0, 9, 0, 8);
        x.set(2, 0, 4);
        emptied("four of least room", x, 0, 0, 0, 0, 8);
        x.put(1, -1);
        x.set(2, 0, 2);
        emptied("but one that stands nowhere", x, 0, 9, 9, 0, 8);
        UnderTheRoof y = five(0, 3, 3, 5, 13);
        y.set(3, 0, 1);
        y.set(2, 0, 2);
        // Rooms: 20 (but nothing in), 7, 27, 7, 27.
        emptied("like rooms: the first", y, 0, 0, 3, 0, 13);
        y.set(2, 0, 1);
        emptied("like rooms: the first alone", y, 0, 0, 3, 5, 13);
        y.set(2, 0, 3);
        emptied("a third of like rooms", y, 0, 0, 0, 0, 13);
        UnderTheRoof z = five(0, 0, 0, 1, 1);
        z.set(2, 0, 3);
        emptied("no more than have any", z, 0, 0, 0, 0, 0);
        UnderTheRoof one = new UnderTheRoof();
        one.vessel(1);
        one.vessel(99);
        one.put(0, 0);
        one.put(1, 1);
        one.fill(1, 1);
        one.set(3, 0, 1);
        one.set(2, 0, 1);
        one.set(1, 0, 1);
        DUE.is("12: least room, but any water", one.water(1, 0, 0), 0);
    }

    private static void goneInHarms() {
        for (int hour = 0; hour < 24; hour++) {
            UnderTheRoof y = new UnderTheRoof();
            y.drip(0, 1, 6);
            Roof.rule(y, "falls rain;harms gone+100;wakes 0;");
            y.set(0, hour, 1);
            DUE.is("12: gone since the beginning, hour " + hour, y.day(0), 100 + hour);
            y.set(1, 0, 1 << 7);
            DUE.is("12: gone since hour 7, hour " + hour, y.day(0), 100 + (hour < 7 ? hour : hour - 7));
            y.set(1, 0, 1 << 7 | 1 << 15);
            DUE.is("12: gone since hour 15, hour " + hour, y.day(0),
                100 + (hour < 7 ? hour : hour < 15 ? hour - 7 : hour - 15));
        }
    }

    private static void goneInWakes() {
        UnderTheRoof x = new UnderTheRoof();
        Roof.rule(x, "falls rain;harms 1;wakes gone*20+hour;");
        x.set(1, 0, 1);
        DUE.is("12: up in hour 0", x.day(1), 0);
        x.set(1, 0, 1 << 9);
        DUE.is("12: up in hour 9", x.day(1), 189);
        x.set(1, 0, 1 << 9 | 1 << 10 | 1 << 13);
        DUE.is("12: up in hours 9, 10, 13", x.day(1), 180 + 9 + 20 + 10 + 60 + 13);
    }

    private static void namesOfHarmsAndWakes() {
        String[] names = {"rain", "hour", "place", "rate", "size", "gone"};
        int[] harms = {4, 20, 3, 0, 24, 8};
        int[] wakes = {2, 12, 0, 0, 0, 12};
        for (int n = 0; n < 6; n++) {
            UnderTheRoof x = new UnderTheRoof();
            x.drip(0, 6, 3);
            x.vessel(12);
            x.put(0, 3);
            x.set(0, 20, 4);
            x.set(0, 12, 2);
            x.set(1, 0, 1 << 12);
            Roof.rule(x, "falls (hour=20)*36;harms " + names[n] + ";wakes " + names[n] + ";");
            DUE.is("12: harms " + names[n], x.day(0), harms[n]);
            DUE.is("12: wakes " + names[n], x.day(1), wakes[n]);
            DUE.is("12: cost by " + names[n], x.day(2), harms[n] + wakes[n]);
        }
    }

    private static void bounds() {
        UnderTheRoof x = new UnderTheRoof();
        x.drip(0, 1, 3);
        x.set(0, 5, 1);
        x.set(1, 0, 6);
        Roof.rule(x, "falls rain;harms 1000;wakes 1000;");
        day("at most", x, 999, 1998, 2997, 1, 5, 1);
        Roof.rule(x, "falls rain;harms 0-1;wakes 0-1;");
        day("at least", x, 0, 0, 0, 1, 5, 1);
        Roof.rule(x, "falls 0-rain;harms 1000;wakes 999;");
        day("no fall below 0", x, 0, 1998, 1998, 0, -1, 0);
        UnderTheRoof y = new UnderTheRoof();
        for (int i = 0; i < 6; i++) {
            y.drip(3, 0, 0);
        }
        Roof.rule(y, "falls 100;harms size*99;wakes 0;");
        day("all that can fall", y, 24 * 999, 0, 24 * 999, 24 * 1200, 0, 24 * 1200);
    }

    /** The same OVER in the same hour on the same place, but another rule or RAIN. */
    private static void nothingStale() {
        for (int hour = 0; hour < 24; hour += 23) {
            for (int place = 0; place < 8; place += 7) {
                UnderTheRoof x = new UnderTheRoof();
                x.drip(0, 4, place);
                x.set(0, hour, 1);
                Roof.rule(x, "falls (0<rain)*4;harms size+rain*10;wakes 0;");
                Roof.rule(x, "falls (0<rain)*4;harms size*3;wakes 0;");
                DUE.is("12: by TEXT 2", x.day(0), 12);
                x.force(1);
                DUE.is("12: by TEXT 1", x.day(0), 14);
                x.set(0, hour, 5);
                DUE.is("12: by other RAIN", x.day(0), 54);
                x.force(0);
                DUE.is("12: by TEXT 0", x.day(0), 40);
            }
        }
    }

    private static void dayIsThought() {
        UnderTheRoof x = new UnderTheRoof();
        x.drip(1, 3, 4);
        x.drip(2, 34, 4);
        x.vessel(50);
        x.put(0, 4);
        x.fill(0, 20);
        Roof.rainAll(x, 4);
        x.set(1, 0, 77);
        long[] was = Roof.state(x);
        x.day(2);
        x.water(0, 23, 0);
        x.stand(-1);
        x.rise(2, 0);
        x.lead(0);
        x.gone();
        x.tile(0);
        x.more(0, 3);
        x.sorted(0);
        x.sorted(1);
        x.sheet(0, 0, 1);
        x.seen(0, 3, 0);
        x.strange(0, 3);
        x.drawn(99);
        x.chance(99, 9, 0);
        x.falls(0, 0, 0);
        DUE.same("12 to 25: what is thought", Roof.state(x), was);
    }

    /** Promise 13. */
    private static void waters() {
        UnderTheRoof x = new UnderTheRoof();
        x.drip(0, 2, 1);
        x.vessel(5);
        x.vessel(6);
        x.put(0, 1);
        x.fill(1, 3);
        Roof.rainAll(x, 1);
        x.set(0, 3, 0);
        x.set(1, 0, 1 << 5);
        int[] water = {2, 4, 5, 5, 5, 2, 4, 5, 5};
        int[] over = {0, 0, 1, 0, 2, 0, 0, 1, 2};
        for (int hour = 0; hour < water.length; hour++) {
            DUE.is("13: WATER behind hour " + hour, x.water(0, hour, 0), water[hour]);
            DUE.is("13: OVER in hour " + hour, x.water(1, hour, 1), over[hour]);
            DUE.is("13: OVER elsewhere in hour " + hour, x.water(0, hour, 1), 0);
            DUE.is("13: WATER of the other behind hour " + hour, x.water(1, hour, 0), 3);
        }
        DUE.is("13: the last place", x.water(7, 23, 1), 0);
        x.set(6, 0, 7);
        DUE.is("13: OVER on the last place", x.water(7, 23, 1), 2);
        DUE.is("13: no fall, no OVER", x.water(7, 3, 1), 0);
    }

    private static void refused() {
        UnderTheRoof x = new UnderTheRoof();
        for (int what : new int[] {-1, 6, MOST, LEAST}) {
            DUE.is("12: day(" + what + ")", x.day(what), -2);
        }
        DUE.is("13: no vessel", x.water(0, 0, 0), -2);
        DUE.is("13: a place all the same", x.water(0, 0, 1), 0);
        x.vessel(4);
        int[][] bad = {{1, 0, 0}, {-1, 0, 0}, {8, 0, 1}, {-1, 0, 1}, {0, 24, 0}, {0, -1, 0}, {0, 24, 1}, {0, -1, 1},
            {0, 0, 2}, {0, 0, -1}, {MOST, 0, 0}, {LEAST, 0, 1}, {0, MOST, 0}, {0, LEAST, 1}, {0, 0, MOST}};
        for (int[] a : bad) {
            DUE.is("13: water(" + a[0] + ", " + a[1] + ", " + a[2] + ")", x.water(a[0], a[1], a[2]), -2);
        }
    }

    /** Promise 14. */
    private static void passes() {
        UnderTheRoof x = new UnderTheRoof();
        x.drip(0, 1, 2);
        x.vessel(10);
        x.vessel(10);
        x.put(0, 2);
        x.fill(1, 4);
        Roof.rainAll(x, 1);
        x.set(1, 0, 1 << 4);
        DUE.is("14: none", x.pass(0), 0);
        DUE.is("14: none changes nothing", x.told(0, 6), 0);
        DUE.is("14: four", x.pass(4), 0);
        DUE.is("14: WATER behind four", x.told(0, 6), 4);
        DUE.is("14: five", x.pass(5), 5);
        DUE.is("14: WATER behind five more: up in HOUR 4 of them", x.told(0, 6), 1);
        x.fill(0, 10);
        DUE.is("14: four from the brim", x.pass(4), 8);
        DUE.is("14: WATER", x.told(0, 6), 10);
        DUE.is("14: a whole day", x.pass(24), x.day(2));
        DUE.is("14: WATER of one that stands nowhere", x.told(1, 6), 4);
        DUE.is("14: UP stays", x.count(2), 16);
        DUE.is("14: RAIN stays", Roof.rainOf(x, 0), 1);
        DUE.is("14: where it stands stays", x.told(0, 5), 2);
        UnderTheRoof y = new UnderTheRoof();
        y.drip(0, 1, 2);
        Roof.rainAll(y, 1);
        Roof.rule(y, "falls rain;harms gone+hour*10;wakes 0;");
        DUE.is("14: HOUR 0 first, gone 0", y.pass(3), 33);
        DUE.is("14: again HOUR 0 first, gone 0", y.pass(3), 33);
    }

    private static void passRefused() {
        UnderTheRoof x = new UnderTheRoof();
        x.drip(0, 1, 2);
        x.vessel(90);
        x.put(0, 2);
        Roof.rainAll(x, 1);
        long[] was = Roof.state(x);
        for (int n : new int[] {-1, 25, MOST, LEAST}) {
            DUE.is("14: pass(" + n + ")", x.pass(n), -2);
        }
        DUE.same("14: refused", Roof.state(x), was);
    }
}
