/** Promises 1 to 8 and 28: a new object, rain, drips, vessels, and how many there are. */
public final class HouseTest {
    private static final Due DUE = new Due();
    private static final int LEAST = Integer.MIN_VALUE;
    private static final int MOST = Integer.MAX_VALUE;

    public static void main(String[] args) {
        constants();
        newObject();
        setOrdinary();
        setRefused();
        drips();
        vessels();
        puts();
        fills();
        toldAll();
        fallsByKind();
        wherePerKind();
        fallsByText();
        fallsRefused();
        counts();
        DUE.end("HouseTest");
    }

    private static void constants() {
        DUE.is("NONE", UnderTheRoof.NONE, -1);
        DUE.is("BAD", UnderTheRoof.BAD, -2);
        DUE.is("STATE", UnderTheRoof.STATE, -3);
        DUE.is("FULL", UnderTheRoof.FULL, -4);
        DUE.is("NO", UnderTheRoof.NO, -4611686018427387904L);
    }

    /** Promise 1. */
    private static void newObject() {
        UnderTheRoof x = new UnderTheRoof();
        int[] counts = {0, 0, 0, 2, 0, 1, 0, 0, 0};
        for (int what = 0; what < counts.length; what++) {
            DUE.is("1: count(" + what + ")", x.count(what), counts[what]);
        }
        for (int hour = 0; hour < 24; hour++) {
            DUE.is("1: rain of hour " + hour, Roof.rainOf(x, hour), 0);
        }
        for (int what = 0; what < 7; what++) {
            DUE.is("1: told(0, " + what + ")", x.told(0, what), -100);
        }
        for (int sheet = 0; sheet < 4; sheet++) {
            DUE.is("1: cell(" + sheet + ", 0, 0)", x.cell(sheet, 0, 0), -11);
        }
        DUE.is("1: back()", x.back(), -3);
        UnderTheRoof other = new UnderTheRoof();
        x.drip(0, 0, 0);
        x.set(0, 0, 9);
        DUE.is("1: another object's drips", other.count(0), 0);
        DUE.is("1: another object's rain", other.set(0, 0, 0), 0);
    }

    /** Promise 2. */
    private static void setOrdinary() {
        UnderTheRoof x = new UnderTheRoof();
        x.drip(2, 34, 5);
        x.drip(3, 71, 2);
        DUE.is("2: RAIN", x.set(0, 23, 9), 0);
        DUE.is("2: RAIN again", x.set(0, 23, 4), 9);
        DUE.is("2: RAIN of another hour", x.set(0, 22, 1), 0);
        DUE.is("2: UP, of does not matter", x.set(1, LEAST, 16777215), 0);
        DUE.is("2: UP again", x.set(1, 99, 0), 16777215);
        DUE.is("2: HANDS", x.set(2, -7, 5), 2);
        DUE.is("2: HANDS again", x.set(2, MOST, 1), 5);
        DUE.is("2: SORT", x.set(3, 6, 1), 0);
        DUE.is("2: SORT again", x.set(3, -1, 0), 1);
        DUE.is("2: NUMBER", x.set(4, 0, 9), 3);
        DUE.is("2: NUMBER of the other", x.set(4, 1, 0), 7);
        DUE.is("2: RATE", x.set(5, 0, 0), 4);
        DUE.is("2: RATE of the other", x.set(5, 1, 9), 1);
        DUE.is("2: PLACE", x.set(6, 0, 7), 5);
        DUE.is("2: PLACE of the other", x.set(6, 1, 0), 2);
        DUE.is("2: NUMBER became", x.told(0, 1), 9);
        DUE.is("2: RATE became", x.told(0, 2), 0);
        DUE.is("2: PLACE became", x.told(0, 3), 7);
        DUE.is("2: the other's NUMBER", x.told(1, 1), 0);
        DUE.is("2: the other's RATE", x.told(1, 2), 9);
        DUE.is("2: the other's PLACE", x.told(1, 3), 0);
    }

    private static void setRefused() {
        UnderTheRoof x = new UnderTheRoof();
        x.drip(0, 34, 5);
        x.vessel(7);
        x.set(0, 3, 3);
        long[] was = Roof.state(x);
        int[][] bad = {{-1, 0, 0}, {7, 0, 0}, {LEAST, 0, 0}, {MOST, 0, 0}, {0, -1, 0}, {0, 24, 0}, {0, MOST, 0},
            {0, LEAST, 0}, {0, 0, -1}, {0, 0, 10}, {0, 0, MOST}, {1, 0, -1}, {1, 0, 16777216}, {1, 0, LEAST},
            {2, 0, 0}, {2, 0, 6}, {2, 0, -1}, {3, 0, -1}, {3, 0, 2}, {4, 1, 0}, {4, -1, 0}, {4, 0, -1}, {4, 0, 10},
            {5, 1, 0}, {5, -1, 0}, {5, 0, -1}, {5, 0, 10}, {6, 1, 0}, {6, -1, 0}, {6, 0, -1}, {6, 0, 8},
            {4, MOST, 0}, {5, LEAST, 0}, {6, 6, 0}};
        for (int[] a : bad) {
            DUE.is("2: set(" + a[0] + ", " + a[1] + ", " + a[2] + ")", x.set(a[0], a[1], a[2]), -2);
        }
        DUE.same("2: refused sets", Roof.state(x), was);
    }

    /** Promise 3. */
    private static void drips() {
        UnderTheRoof x = new UnderTheRoof();
        int[][] bad = {{-1, 0, 0}, {6, 0, 0}, {0, -1, 0}, {0, 100, 0}, {0, 0, -1}, {0, 0, 8}, {MOST, MOST, MOST}};
        for (int[] a : bad) {
            DUE.is("3: drip(" + a[0] + ", " + a[1] + ", " + a[2] + ")", x.drip(a[0], a[1], a[2]), -2);
        }
        DUE.is("3: none came", x.count(0), 0);
        for (int kind = 0; kind < 6; kind++) {
            DUE.is("3: drip " + kind, x.drip(kind, 99 - 11 * kind - kind, 7 - kind), kind);
        }
        DUE.is("3: a seventh", x.drip(0, 0, 0), -4);
        DUE.is("3: a seventh, bad: BAD ahead of FULL", x.drip(6, 0, 0), -2);
        DUE.is("3: how many", x.count(0), 6);
        for (int kind = 0; kind < 6; kind++) {
            int what = 99 - 12 * kind;
            DUE.is("3: KIND", x.told(kind, 0), kind);
            DUE.is("3: NUMBER", x.told(kind, 1), what / 10);
            DUE.is("3: RATE", x.told(kind, 2), what % 10);
            DUE.is("3: PLACE", x.told(kind, 3), 7 - kind);
        }
    }

    /** Promise 4. */
    private static void vessels() {
        UnderTheRoof x = new UnderTheRoof();
        for (int size : new int[] {0, 100, -1, LEAST, MOST}) {
            DUE.is("4: vessel(" + size + ")", x.vessel(size), -2);
        }
        DUE.is("4: the least", x.vessel(1), 0);
        DUE.is("4: the largest", x.vessel(99), 1);
        DUE.is("4: SIZE", x.told(1, 4), 99);
        DUE.is("4: stands on none", x.told(1, 5), -1);
        DUE.is("4: has no WATER", x.told(1, 6), 0);
        for (int i = 2; i < 5; i++) {
            DUE.is("4: vessel " + i, x.vessel(10 + i), i);
        }
        DUE.is("4: a sixth", x.vessel(5), -4);
        DUE.is("4: a sixth, bad: BAD ahead of FULL", x.vessel(0), -2);
        DUE.is("4: how many", x.count(1), 5);
        DUE.is("4: SIZE of the last", x.told(4, 4), 14);
    }

    /** Promise 5. */
    private static void puts() {
        UnderTheRoof x = new UnderTheRoof();
        DUE.is("5: no vessel", x.put(0, 0), -2);
        x.vessel(5);
        x.vessel(6);
        DUE.is("5: put", x.put(0, 7), -1);
        DUE.is("5: put elsewhere", x.put(0, 0), 7);
        DUE.is("5: put where it stands", x.put(0, 0), 0);
        DUE.is("5: where another stands", x.put(1, 0), -3);
        DUE.is("5: it stands as it did", x.told(1, 5), -1);
        DUE.is("5: beside", x.put(1, 7), -1);
        DUE.is("5: the first where the second stands", x.put(0, 7), -3);
        DUE.is("5: it stands there still", x.told(0, 5), 0);
        DUE.is("5: on none", x.put(0, -1), 0);
        DUE.is("5: on none again", x.put(0, -1), -1);
        DUE.is("5: both on none", x.put(1, -1), 7);
        DUE.is("5: where one stood", x.put(1, 0), -1);
        int[][] bad = {{2, 0}, {-1, 0}, {0, 8}, {0, -2}, {MOST, 0}, {LEAST, 0}, {0, MOST}, {0, LEAST}, {5, 0}};
        long[] was = Roof.state(x);
        for (int[] a : bad) {
            DUE.is("5: put(" + a[0] + ", " + a[1] + ")", x.put(a[0], a[1]), -2);
        }
        DUE.same("5: refused puts", Roof.state(x), was);
    }

    /** Promise 6. */
    private static void fills() {
        UnderTheRoof x = new UnderTheRoof();
        DUE.is("6: no vessel", x.fill(0, 0), -2);
        x.vessel(5);
        x.vessel(6);
        DUE.is("6: to the brim", x.fill(0, 5), 0);
        DUE.is("6: of another size", x.fill(1, 6), 0);
        DUE.is("6: less", x.fill(0, 2), 5);
        int[][] bad = {{0, 6}, {0, -1}, {1, 7}, {2, 0}, {-1, 0}, {0, MOST}, {0, LEAST}, {MOST, 0}, {LEAST, 0}};
        for (int[] a : bad) {
            DUE.is("6: fill(" + a[0] + ", " + a[1] + ")", x.fill(a[0], a[1]), -2);
        }
        DUE.is("6: WATER", x.told(0, 6), 2);
        DUE.is("6: WATER of the other", x.told(1, 6), 6);
        DUE.is("6: emptied", x.fill(0, 0), 2);
    }

    /** Promise 7. */
    private static void toldAll() {
        UnderTheRoof x = new UnderTheRoof();
        x.drip(4, 73, 6);
        x.drip(1, 5, 1);
        x.vessel(44);
        x.put(0, 3);
        x.fill(0, 40);
        int[] told = {4, 7, 3, 6, 44, 3, 40};
        for (int what = 0; what < 7; what++) {
            DUE.is("7: told(0, " + what + ")", x.told(0, what), told[what]);
        }
        int[][] none = {{0, 7}, {0, -1}, {2, 0}, {2, 3}, {-1, 0}, {1, 4}, {1, 6}, {-1, 5}, {0, MOST}, {0, LEAST},
            {MOST, 0}, {LEAST, 4}};
        for (int[] a : none) {
            DUE.is("7: told(" + a[0] + ", " + a[1] + ")", x.told(a[0], a[1]), -100);
        }
        DUE.is("7: a drip where there is no vessel", x.told(1, 2), 5);
    }

    private static UnderTheRoof oneDrip(int kind, int what, int place, int hour, int rain) {
        UnderTheRoof x = new UnderTheRoof();
        x.drip(kind, what, place);
        x.set(0, hour, rain);
        return x;
    }

    private static void falls(int kind, int what, int hour, int rain, int due) {
        UnderTheRoof x = oneDrip(kind, what, 2, hour, rain);
        DUE.is("8: kind " + kind + ", what " + what + ", hour " + hour + ", rain " + rain, x.falls(0, hour, 0), due);
    }

    /** Promise 8: THE RULE at first tells RATE times RAIN. */
    private static void fallsByKind() {
        falls(0, 7, 4, 5, 35);
        falls(0, 97, 4, 5, 35);
        falls(0, 9, 4, 9, 81);
        falls(0, 9, 4, 0, 0);
        falls(1, 7, 4, 5, 36);
        falls(1, 0, 4, 0, 1);
        falls(2, 57, 4, 5, 35);
        falls(2, 47, 4, 5, 17);
        falls(2, 97, 4, 9, 63);
        falls(2, 7, 4, 0, 0);
        falls(3, 57, 4, 5, 0);
        falls(3, 47, 4, 5, 72);
        falls(3, 7, 0, 5, 72);
        falls(3, 97, 8, 5, 0);
        falls(3, 97, 9, 5, 72);
        falls(4, 52, 4, 5, 9);
        falls(4, 51, 4, 5, 5);
        falls(4, 43, 4, 5, 7);
        falls(4, 44, 4, 5, 9);
        falls(4, 49, 4, 9, 9);
        falls(5, 7, 11, 5, 0);
        falls(5, 7, 12, 5, 36);
        falls(5, 97, 23, 5, 36);
        falls(5, 0, 0, 9, 0);
    }

    private static void where(int kind, int what, int place, int rain, int due) {
        UnderTheRoof x = oneDrip(kind, what, place, 6, rain);
        DUE.is("8: where, kind " + kind + ", what " + what + ", place " + place + ", rain " + rain,
            x.falls(0, 6, 1), due);
    }

    private static void wherePerKind() {
        for (int kind : new int[] {0, 1, 3, 5}) {
            where(kind, 0, 7, 9, 7);
            where(kind, 30, 0, 4, 0);
        }
        where(2, 30, 4, 3, 4);
        where(2, 30, 4, 4, 5);
        where(2, 30, 7, 4, 0);
        where(2, 90, 7, 9, 7);
        where(4, 30, 4, 9, 3);
        where(4, 30, 4, 0, 3);
        where(4, 70, 4, 9, 7);
        where(4, 80, 4, 9, 0);
        where(4, 90, 4, 0, 1);
    }

    private static UnderTheRoof fallers() {
        UnderTheRoof x = new UnderTheRoof();
        x.drip(0, 26, 4);
        x.drip(2, 26, 4);
        x.drip(4, 53, 4);
        x.drip(3, 26, 4);
        x.set(0, 9, 5);
        return x;
    }

    /** What names tell in falls, and the bounds. */
    private static void fallsByText() {
        UnderTheRoof x = fallers();
        String[] names = {"rain", "hour", "place", "rate", "size", "gone"};
        int[][] due = {{5, 9, 4, 6, 0, 0}, {2, 4, 2, 3, 0, 0}, {5, 9, 5, 3, 0, 0}, {12, 20, 10, 14, 2, 2}};
        for (int n = 0; n < 6; n++) {
            if (n == 4) {
                // Six texts have room: the last two go to a fresh object.
                x = fallers();
            }
            Roof.rule(x, "falls " + names[n] + ";harms 1;wakes 1;");
            for (int drip = 0; drip < 4; drip++) {
                DUE.is("8: falls " + names[n] + " of drip " + drip, x.falls(drip, 9, 0), due[drip][n]);
            }
        }
        UnderTheRoof y = new UnderTheRoof();
        for (int kind = 0; kind < 6; kind++) {
            y.drip(kind, 0, 0);
        }
        Roof.rule(y, "falls gone+100;harms 1;wakes 1;");
        int[] most = {99, 100, 99, 200, 9, 100};
        for (int kind = 0; kind < 6; kind++) {
            DUE.is("8: at most, kind " + kind, y.falls(kind, 12, 0), most[kind]);
        }
        y.set(0, 12, 1);
        DUE.is("8: half of the bound", y.falls(2, 12, 0), 49);
        Roof.rule(y, "falls 0-1-gone;harms 1;wakes 1;");
        int[] least = {0, 1, 0, 2, 0, 1};
        for (int kind = 0; kind < 6; kind++) {
            DUE.is("8: at least, kind " + kind, y.falls(kind, 12, 0), least[kind]);
        }
    }

    private static void fallsRefused() {
        UnderTheRoof x = new UnderTheRoof();
        DUE.is("8: no drip", x.falls(0, 0, 0), -2);
        x.drip(0, 11, 0);
        int[][] bad = {{1, 0, 0}, {-1, 0, 0}, {0, 24, 0}, {0, -1, 0}, {0, 0, 2}, {0, 0, -1}, {MOST, 0, 0},
            {0, MOST, 0}, {0, 0, MOST}, {LEAST, LEAST, LEAST}, {6, 0, 0}};
        for (int[] a : bad) {
            DUE.is("8: falls(" + a[0] + ", " + a[1] + ", " + a[2] + ")", x.falls(a[0], a[1], a[2]), -2);
        }
    }

    /** Promise 28. */
    private static void counts() {
        UnderTheRoof x = new UnderTheRoof();
        x.drip(0, 0, 0);
        x.drip(1, 0, 0);
        x.drip(1, 0, 0);
        x.vessel(9);
        x.vessel(8);
        x.fill(0, 4);
        x.fill(1, 8);
        x.put(0, 5);
        x.set(1, 0, 5);
        x.set(2, 0, 4);
        x.set(3, 0, 1);
        Roof.rule(x, "falls 1;harms 1;wakes 1;");
        Roof.read(x, "falls 1;harms 1;wakes 1;");
        Roof.feed(x, "abcd");
        int[] due = {3, 2, 5, 4, 1, 3, 4, 1, 12};
        for (int what = 0; what < due.length; what++) {
            DUE.is("28: count(" + what + ")", x.count(what), due[what]);
        }
        for (int what : new int[] {-1, 9, MOST, LEAST}) {
            DUE.is("28: count(" + what + ")", x.count(what), -2);
        }
    }
}
