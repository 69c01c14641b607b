/** Promises 15 to 21: where to stand, when to rise, what to lead, how long to be gone; tiles, more, hands. */
public final class BestTest {
    private static final Due DUE = new Due();
    private static final int LEAST = Integer.MIN_VALUE;
    private static final int MOST = Integer.MAX_VALUE;

    public static void main(String[] args) {
        stands();
        standsOfLikeOnes();
        standsOfFive();
        standRefused();
        rises();
        riseRefused();
        leads();
        leadsByFalls();
        leadRefused();
        gones();
        tiles();
        mores();
        sorteds();
        carries();
        DUE.end("BestTest");
    }

    /** Promise 15. */
    private static void stands() {
        UnderTheRoof x = new UnderTheRoof();
        DUE.is("15: no vessel", x.stand(-1), 0);
        x.drip(0, 1, 6);
        x.drip(0, 2, 3);
        x.drip(0, 3, 5);
        Roof.rainAll(x, 1);
        DUE.is("15: no vessel, COST as now", x.stand(-1), 288);
        x.vessel(10);
        DUE.is("15: a vessel, COST", x.stand(-1), 268);
        DUE.is("15: of like places the first", x.stand(0), 3);
        x.vessel(60);
        DUE.is("15: two, COST", x.stand(-1), 148);
        DUE.is("15: two, the first", x.stand(0), 3);
        DUE.is("15: two, the second", x.stand(1), 5);
        DUE.is("15: they stand as they did", x.told(0, 5), -1);
        x.fill(1, 59);
        DUE.is("15: by WATER as it is, COST", x.stand(-1), 288 - 20 - 2);
        DUE.is("15: by WATER as it is, the first", x.stand(0), 3);
        DUE.is("15: by WATER as it is, the second", x.stand(1), 5);
        x.set(1, 0, 1);
        DUE.is("15: by UP, COST", x.stand(-1), 288 - 20 - 120 + 5);
        DUE.is("15: by UP, the second", x.stand(1), 5);
    }

    private static void standsOfLikeOnes() {
        UnderTheRoof x = new UnderTheRoof();
        for (int v = 0; v < 5; v++) {
            x.vessel(9);
        }
        for (int v = 0; v < 5; v++) {
            DUE.is("15: all alike, vessel " + v, x.stand(v), v);
        }
        x.drip(0, 1, 1);
        Roof.rainAll(x, 1);
        // One of them beneath the drip; by VESSEL 0's PLACE first, that is VESSEL 1 on PLACE 1.
        DUE.is("15: one drip, COST", x.stand(-1), 30);
        for (int v = 0; v < 5; v++) {
            DUE.is("15: one drip, vessel " + v, x.stand(v), v);
        }
        x.set(6, 0, 7);
        int[] due = {0, 1, 2, 3, 7};
        for (int v = 0; v < 5; v++) {
            DUE.is("15: a drip on the last place, vessel " + v, x.stand(v), due[v]);
        }
        x.fill(4, 9);
        int[] full = {0, 1, 2, 7, 3};
        for (int v = 0; v < 5; v++) {
            DUE.is("15: the last one is full, vessel " + v, x.stand(v), full[v]);
        }
    }

    /** Five vessels that hold just what their own drip falls: only one way costs nothing. */
    private static void standsOfFive() {
        int[][] places = {{7, 5, 3, 1, 0}, {7, 6, 5, 4, 3}, {3, 7, 0, 6, 2}, {4, 0, 7, 2, 5}, {1, 2, 3, 4, 5}};
        for (int[] place : places) {
            UnderTheRoof x = new UnderTheRoof();
            x.set(0, 0, 1);
            for (int v = 0; v < 5; v++) {
                x.vessel(v + 1);
                x.drip(0, v + 1, place[v]);
            }
            DUE.is("15: five, COST", x.stand(-1), 0);
            for (int v = 0; v < 5; v++) {
                DUE.is("15: five, vessel " + v, x.stand(v), place[v]);
            }
        }
    }

    private static void standRefused() {
        UnderTheRoof x = new UnderTheRoof();
        DUE.is("15: no such vessel", x.stand(0), -2);
        x.vessel(3);
        for (int what : new int[] {-2, 1, 5, MOST, LEAST}) {
            DUE.is("15: stand(" + what + ")", x.stand(what), -2);
        }
        DUE.is("15: stand(0)", x.stand(0), 0);
    }

    /** Promise 16. */
    private static void rises() {
        UnderTheRoof x = new UnderTheRoof();
        x.drip(0, 1, 2);
        x.vessel(10);
        x.put(0, 2);
        Roof.rainAll(x, 1);
        x.set(1, 0, 8);
        // Of UP nothing counts: 14 are over without any; one rise saves up to 10 of them, two all.
        DUE.is("16: none, COST", x.rise(0, 0), 28);
        DUE.is("16: none, HOURS", x.rise(0, 1), 0);
        DUE.is("16: one, COST", x.rise(1, 0), 13);
        DUE.is("16: one, the least bits", x.rise(1, 1), 1 << 10);
        DUE.is("16: two, COST", x.rise(2, 0), 10);
        DUE.is("16: two, the least bits", x.rise(2, 1), 1 << 4 | 1 << 14);
        DUE.is("16: three, COST", x.rise(3, 0), 15);
        DUE.is("16: three, the least bits", x.rise(3, 1), 1 | 1 << 4 | 1 << 14);
        DUE.is("16: UP stays", x.count(2), 8);
        UnderTheRoof y = new UnderTheRoof();
        Roof.rule(y, "falls 0;harms 0;wakes 23-hour;");
        DUE.is("16: the last hour", y.rise(1, 1), 1 << 23);
        DUE.is("16: the last hours", y.rise(3, 1), 7 << 21);
        DUE.is("16: the last hours, COST", y.rise(3, 0), 3);
        Roof.rule(y, "falls 0;harms 0;wakes gone*10+hour*3;");
        // 0 and 1 and 2 cost 0, 10 + 3 and 10 + 6.
        DUE.is("16: by gone", y.rise(3, 1), 7);
        DUE.is("16: by gone, COST", y.rise(3, 0), 29);
    }

    private static void riseRefused() {
        UnderTheRoof x = new UnderTheRoof();
        int[][] bad = {{-1, 0}, {4, 0}, {0, -1}, {0, 2}, {MOST, 0}, {LEAST, 1}, {0, MOST}, {3, LEAST}};
        for (int[] a : bad) {
            DUE.is("16: rise(" + a[0] + ", " + a[1] + ")", x.rise(a[0], a[1]), -2);
        }
    }

    /** Promise 17. */
    private static void leads() {
        UnderTheRoof x = new UnderTheRoof();
        DUE.is("17: no drip", x.lead(0), -1);
        DUE.is("17: no drip, COST", x.lead(1), 0);
        x.drip(0, 1, 3);
        x.drip(0, 2, 4);
        Roof.rainAll(x, 1);
        DUE.is("17: no less anywhere", x.lead(0), -1);
        DUE.is("17: COST as now", x.lead(1), 144);
        x.vessel(20);
        x.put(0, 6);
        DUE.is("17: of like ones the first drip", x.lead(0), 6);
        DUE.is("17: COST then", x.lead(1), 104);
        x.vessel(20);
        x.put(1, 5);
        DUE.is("17: of like ones the first place", x.lead(0), 5);
        x.vessel(30);
        x.put(2, 7);
        DUE.is("17: the second drip", x.lead(0), 17);
        DUE.is("17: the second drip, COST", x.lead(1), 84);
        DUE.is("17: it falls where it fell", x.falls(1, 0, 1), 4);
        UnderTheRoof z = new UnderTheRoof();
        z.drip(0, 1, 3);
        z.drip(0, 4, 7);
        z.vessel(99);
        z.put(0, 0);
        Roof.rainAll(z, 1);
        DUE.is("17: the first place", z.lead(0), 10);
        DUE.is("17: the first place, COST", z.lead(1), 48);
        z.put(0, 7);
        z.set(5, 0, 0);
        z.set(6, 1, 0);
        DUE.is("17: the last place", z.lead(0), 17);
        UnderTheRoof y = new UnderTheRoof();
        y.drip(2, 2, 3);
        y.vessel(99);
        y.put(0, 3);
        Roof.rainAll(y, 1);
        // It wanders to PLACE 4 all day; led to its own place, it stays.
        DUE.is("17: one that wanders", y.lead(0), 3);
        Roof.rule(y, "falls 2;harms 1;wakes 0;");
        DUE.is("17: one that wanders, COST now", y.day(2), 24);
        DUE.is("17: one that wanders, COST then", y.lead(1), 0);
    }

    /** As much as it falls, by its kind; falls is told for the place to which it is led. */
    private static void leadsByFalls() {
        UnderTheRoof x = new UnderTheRoof();
        x.drip(2, 9, 3);
        Roof.rainAll(x, 1);
        Roof.rule(x, "falls 20-place;harms size;wakes 0;");
        DUE.is("17: half of 16", x.day(2), 192);
        DUE.is("17: half of 13 is least", x.lead(0), 7);
        DUE.is("17: half of 13, COST", x.lead(1), 144);
        UnderTheRoof y = new UnderTheRoof();
        y.drip(4, 22, 5);
        y.drip(5, 0, 0);
        Roof.rule(y, "falls 6-place;harms size;wakes 0;");
        DUE.is("17: a LED one and a NEW one", y.day(2), 24 * 4 + 12 * 7);
        DUE.is("17: the LED one led", y.lead(0), 6);
        DUE.is("17: the LED one led, COST", y.lead(1), 84);
    }

    private static void leadRefused() {
        UnderTheRoof x = new UnderTheRoof();
        for (int what : new int[] {-1, 2, MOST, LEAST}) {
            DUE.is("17: lead(" + what + ")", x.lead(what), -2);
        }
    }

    /** Promise 18. */
    private static void gones() {
        UnderTheRoof x = new UnderTheRoof();
        DUE.is("18: no drip", x.gone(), 24);
        x.drip(0, 1, 2);
        DUE.is("18: no rain", x.gone(), 24);
        Roof.rainAll(x, 1);
        DUE.is("18: at once", x.gone(), 0);
        x.vessel(10);
        x.put(0, 2);
        DUE.is("18: a vessel", x.gone(), 10);
        x.set(1, 0, 1 << 5 | 1 << 14);
        DUE.is("18: no HOUR UP", x.gone(), 10);
        DUE.is("18: FIRST by UP", x.day(4), -1);
        x.fill(0, 7);
        DUE.is("18: by WATER", x.gone(), 3);
        x.vessel(23);
        x.put(0, -1);
        x.put(1, 2);
        DUE.is("18: the last hour", x.gone(), 23);
        x.set(0, 0, 0);
        DUE.is("18: none", x.gone(), 24);
    }

    /** Promise 19. */
    private static void tiles() {
        UnderTheRoof x = new UnderTheRoof();
        DUE.is("19: no drip", x.tile(0), -100000);
        x.drip(0, 1, 2);
        x.drip(0, 2, 2);
        x.drip(0, 4, 5);
        Roof.rainAll(x, 1);
        x.vessel(30);
        x.put(0, 2);
        DUE.is("19: of the first", x.tile(0), 48);
        DUE.is("19: of the second", x.tile(1), 84);
        DUE.is("19: of the third", x.tile(2), 192);
        for (int drip : new int[] {-1, 3, 6, MOST, LEAST}) {
            DUE.is("19: tile(" + drip + ")", x.tile(drip), -100000);
        }
        DUE.is("19: they are there still", x.day(2), 84 + 192);
        UnderTheRoof y = new UnderTheRoof();
        y.drip(0, 3, 2);
        y.drip(0, 1, 2);
        Roof.rainAll(y, 1);
        Roof.rule(y, "falls rate*rain;harms 9-size*2;wakes 0;");
        DUE.is("19: below 0", y.tile(1), 24 - 24 * 3);
    }

    /** Promise 20. */
    private static void mores() {
        UnderTheRoof x = new UnderTheRoof();
        DUE.is("20: no drip", x.more(0, 1), -100000);
        x.drip(0, 1, 2);
        x.drip(2, 2, 4);
        Roof.rainAll(x, 1);
        x.vessel(30);
        x.put(0, 2);
        DUE.is("20: one more", x.more(0, 1), 36);
        DUE.is("20: nine more", x.more(0, 9), 420);
        DUE.is("20: of the other, where it wanders", x.more(1, 3), 144);
        int[][] bad = {{2, 1}, {-1, 1}, {0, 0}, {0, 10}, {0, -1}, {MOST, 1}, {LEAST, 1}, {0, MOST}, {0, LEAST}, {6, 1}};
        for (int[] a : bad) {
            DUE.is("20: more(" + a[0] + ", " + a[1] + ")", x.more(a[0], a[1]), -100000);
        }
        DUE.is("20: none came", x.count(0), 2);
        UnderTheRoof full = new UnderTheRoof();
        for (int i = 0; i < 6; i++) {
            full.drip(3, 0, 0);
        }
        Roof.rule(full, "falls 99;harms size=3000;wakes 0;");
        DUE.is("20: nine more than there can be", full.more(5, 9), 24);
        UnderTheRoof y = new UnderTheRoof();
        y.drip(0, 1, 2);
        Roof.rainAll(y, 1);
        Roof.rule(y, "falls rate*rain;harms 9-size*2;wakes 0;");
        DUE.is("20: below 0", y.more(0, 2), 24 * 3 - 24 * 7);
    }

    /** Promise 21. */
    private static void sorteds() {
        UnderTheRoof x = new UnderTheRoof();
        x.vessel(10);
        x.vessel(50);
        x.put(0, 0);
        x.put(1, 1);
        x.fill(0, 10);
        x.fill(1, 30);
        x.drip(0, 3, 0);
        x.set(0, 5, 2);
        x.set(1, 0, 1);
        x.set(2, 0, 1);
        // By 0 the large one is emptied and 6 are over; by 1 the small one.
        DUE.is("21: COST by 0", x.day(2), 17);
        DUE.is("21: SORTED", x.sorted(0), -12);
        DUE.is("21: SORT stays", x.count(4), 0);
        x.set(3, 0, 1);
        DUE.is("21: SORTED, the other way", x.sorted(0), 12);
        for (int what : new int[] {-1, 2, MOST, LEAST}) {
            DUE.is("21: sorted(" + what + ")", x.sorted(what), -100000);
        }
    }

    private static void carries() {
        UnderTheRoof x = new UnderTheRoof();
        DUE.is("21: nothing to carry", x.sorted(1), 1);
        int[] due = {5, 4, 3, 2, 1};
        for (int place = 0; place < 5; place++) {
            UnderTheRoof y = new UnderTheRoof();
            for (int v = 0; v < 5; v++) {
                y.vessel(10 + v);
                y.put(v, v);
                y.fill(v, 10 + v);
            }
            y.set(1, 0, 1);
            y.drip(0, 1, place);
            y.set(0, 3, 1);
            // The fullest first, so the vessel on PLACE 0 comes last.
            DUE.is("21: CARRY, a drip on place " + place, y.sorted(1), due[place]);
            y.set(2, 0, 5);
            DUE.is("21: CARRY by five HANDS", y.sorted(1), due[place]);
            DUE.is("21: HANDS stay", y.count(3), 5);
        }
        UnderTheRoof z = new UnderTheRoof();
        z.vessel(5);
        z.put(0, 0);
        z.fill(0, 5);
        z.drip(0, 1, 0);
        z.set(0, 3, 1);
        z.set(1, 0, 1);
        DUE.is("21: CARRY, one vessel", z.sorted(1), 1);
    }
}
