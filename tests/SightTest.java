/** Promises 22 to 27: what was seen, what is strange, drawn rain, dry days, images. */
public final class SightTest {
    private static final Due DUE = new Due();
    private static final int LEAST = Integer.MIN_VALUE;
    private static final int MOST = Integer.MAX_VALUE;

    public static void main(String[] args) {
        seens();
        seensOfNone();
        seensBySort();
        seenRefused();
        stranges();
        strangeRefused();
        drawns();
        chances();
        chanceRefused();
        images();
        imageKeepsNoMore();
        imageOfRule();
        DUE.end("SightTest");
    }

    /** Three drips of 1, 2, 3 on PLACE 4 with a large vessel, one of 3 on PLACE 5 with another. */
    private static UnderTheRoof four() {
        UnderTheRoof x = new UnderTheRoof();
        x.drip(0, 1, 4);
        x.drip(0, 2, 4);
        x.drip(0, 3, 4);
        x.drip(0, 3, 5);
        x.vessel(90);
        x.vessel(20);
        x.put(0, 4);
        x.put(1, 5);
        Roof.rainAll(x, 1);
        return x;
    }

    private static void seen(UnderTheRoof x, int hour, int many, int least, int... water) {
        Roof.sheet(x, 2, 1, water);
        DUE.is("22: how many, hour " + hour + ", " + water[0], x.seen(2, hour, 0), many);
        DUE.is("22: the least, hour " + hour + ", " + water[0], x.seen(2, hour, 1), least);
    }

    /** Promise 22. */
    private static void seens() {
        UnderTheRoof x = four();
        seen(x, 0, 2, 3, 3, 0);
        seen(x, 0, 2, 11, 3, 3);
        seen(x, 0, 1, 0, 0, 0);
        seen(x, 0, 1, 15, 6, 3);
        seen(x, 0, 0, -1, 7, 3);
        seen(x, 0, 0, -1, 6, 2);
        seen(x, 0, 1, 6, 5, 0);
        seen(x, 3, 2, 3, 12, 0);
        seen(x, 9, 1, 13, 40, 20);
        seen(x, 23, 2, 3, 72, 0);
        seen(x, 23, 2, 11, 72, 20);
    }

    private static void seensOfNone() {
        UnderTheRoof x = new UnderTheRoof();
        x.sheet(0, 0, 0);
        DUE.is("22: no drip, no vessel", x.seen(0, 0, 0), 1);
        DUE.is("22: the set of none", x.seen(0, 0, 1), 0);
        x.drip(0, 1, 4);
        x.drip(0, 1, 4);
        DUE.is("22: no vessel, all sets", x.seen(0, 23, 0), 4);
        DUE.is("22: no vessel, the least", x.seen(0, 23, 1), 0);
        x.vessel(9);
        x.fill(0, 5);
        Roof.rainAll(x, 1);
        seen(x, 23, 4, 0, 5);
        seen(x, 23, 0, -1, 0);
        x.put(0, 4);
        x.set(1, 0, 1);
        seen(x, 0, 1, 0, 0);
        seen(x, 0, 2, 1, 1);
        seen(x, 0, 1, 3, 2);
        seen(x, 0, 0, -1, 5);
    }

    private static void seensBySort() {
        UnderTheRoof x = four();
        for (int sort = 0; sort < 3; sort++) {
            x.sheet(0, sort, 2);
            x.cell(0, 0, 65536 + 256 + 3);
            DUE.is("22: of sort " + sort + ", 3 by its lowest bits", x.seen(0, 0, 0), sort == 0 ? 2 : 0);
            x.cell(0, 0, 65536 + 3);
            DUE.is("22: of sort " + sort + ", 3 by its lower bits", x.seen(0, 0, 0), sort == 2 ? 0 : 2);
            x.cell(0, 0, 3);
            DUE.is("22: of sort " + sort + ", 3", x.seen(0, 0, 0), 2);
        }
    }

    private static void seenRefused() {
        UnderTheRoof x = four();
        x.sheet(1, 0, 2);
        x.sheet(2, 0, 1);
        x.sheet(3, 0, 3);
        int[][] bad = {{-1, 0, 0}, {4, 0, 0}, {1, -1, 0}, {1, 24, 0}, {1, 0, -1}, {1, 0, 2}, {2, 0, 0}, {3, 0, 1},
            {0, 24, 0}, {0, -1, 0}, {0, 0, 2}, {0, 0, -1}, {MOST, 0, 0}, {LEAST, 0, 0}, {1, MOST, 0}, {1, 0, MOST}};
        for (int[] a : bad) {
            DUE.is("22: seen(" + a[0] + ", " + a[1] + ", " + a[2] + ")", x.seen(a[0], a[1], a[2]), -2);
        }
        DUE.is("22: a missing one", x.seen(0, 0, 0), -11);
        DUE.is("22: a missing one, the least", x.seen(0, 23, 1), -11);
        x.sheet(1, -1, 2);
        DUE.is("22: one that went", x.seen(1, 0, 0), -11);
    }

    private static void strange(UnderTheRoof x, int hour, int due, int... water) {
        Roof.sheet(x, 2, 2, water);
        DUE.is("23: strange, hour " + hour + ", " + water[0], x.strange(2, hour), due);
    }

    /** Promise 23. */
    private static void stranges() {
        UnderTheRoof x = four();
        strange(x, 0, 0, 5, 3);
        strange(x, 0, 1, 4, 3);
        strange(x, 0, 2, 3, 3);
        strange(x, 0, 3, 6, 0);
        strange(x, 0, -1, 6, 3);
        strange(x, 0, -1, 3, 0);
        strange(x, 0, -1, 0, 0);
        x.set(5, 1, 1);
        strange(x, 0, 0, 4, 3);
        UnderTheRoof y = new UnderTheRoof();
        y.sheet(0, 0, 0);
        DUE.is("23: no drip", y.strange(0, 0), -1);
        y.drip(5, 0, 0);
        DUE.is("23: no vessel", y.strange(0, 0), 0);
        y.vessel(9);
        y.put(0, 0);
        strange(y, 11, 0, 0);
        strange(y, 12, -1, 1);
        strange(y, 12, 0, 0);
    }

    private static void strangeRefused() {
        UnderTheRoof x = four();
        x.sheet(1, 0, 2);
        x.sheet(2, 0, 1);
        x.sheet(3, 0, 3);
        int[][] bad = {{-1, 0}, {4, 0}, {1, -1}, {1, 24}, {2, 0}, {3, 0}, {0, 24}, {0, -1}, {MOST, 0}, {1, LEAST}};
        for (int[] a : bad) {
            DUE.is("23: strange(" + a[0] + ", " + a[1] + ")", x.strange(a[0], a[1]), -2);
        }
        DUE.is("23: a missing one", x.strange(0, 0), -11);
    }

    /** RAIN of each HOUR by a seed, as the document tells it, by longs. */
    private static int[] rainBy(int seed) {
        int[] rain = new int[24];
        long z = seed & 0xFFFFFFFFL;
        for (int hour = 0; hour < 24; hour++) {
            z = (z * 1103515245L + 12345L) & 0xFFFFFFFFL;
            rain[hour] = (int) ((z >> 9) % 10);
        }
        return rain;
    }

    /** Promise 24. */
    private static void drawns() {
        UnderTheRoof x = new UnderTheRoof();
        DUE.is("24: no drip", x.drawn(5), 0);
        x.drip(2, 52, 4);
        x.drip(3, 31, 1);
        x.vessel(70);
        x.put(0, 4);
        x.fill(0, 3);
        x.set(1, 0, 1 << 8 | 1 << 17);
        Roof.rule(x, "falls rate*rain;harms size+rain*3;wakes rain*7;");
        for (int seed : new int[] {0, 1, -1, 5, 123456789, MOST, LEAST}) {
            UnderTheRoof y = new UnderTheRoof();
            y.drip(2, 52, 4);
            y.drip(3, 31, 1);
            y.vessel(70);
            y.put(0, 4);
            y.fill(0, 3);
            y.set(1, 0, 1 << 8 | 1 << 17);
            Roof.rule(y, "falls rate*rain;harms size+rain*3;wakes rain*7;");
            Roof.rain(y, rainBy(seed));
            DUE.is("24: drawn(" + seed + ")", x.drawn(seed), y.day(2));
        }
        DUE.is("24: RAIN stays", Roof.rainOf(x, 3), 0);
    }

    private static boolean isDry(int size, int seed) {
        int sum = 0;
        for (int rain : rainBy(seed)) {
            sum += rain;
        }
        return sum <= size;
    }

    /** Promise 25: a drip of RATE 1 is as much as RAIN, so it is dry if all RAIN goes into the vessel. */
    private static void chances() {
        UnderTheRoof x = new UnderTheRoof();
        DUE.is("25: no drip", x.chance(9, 20, 0), 1);
        DUE.is("25: no drip, below", x.chance(9, 20, 1), 1);
        x.drip(0, 1, 0);
        DUE.is("25: never", x.chance(9, 20, 0), 0);
        DUE.is("25: never, below", x.chance(9, 20, 1), 1);
        x.vessel(99);
        x.put(0, 0);
        boolean some = false;
        for (int seed : new int[] {0, -10, 77, 4000, MOST - 3, LEAST}) {
            for (int n = 1; n <= 20; n++) {
                int dry = 0;
                for (int i = 0; i < n; i++) {
                    dry += isDry(99, seed + i) ? 1 : 0;
                }
                long above = x.chance(seed, n, 0);
                long below = x.chance(seed, n, 1);
                int gcd = java.math.BigInteger.valueOf(dry).gcd(java.math.BigInteger.valueOf(n)).intValue();
                DUE.is("25: chance(" + seed + ", " + n + ", 0)", above, dry / gcd);
                DUE.is("25: chance(" + seed + ", " + n + ", 1)", below, n / gcd);
                some |= gcd > 1 && dry > 0 && dry < n;
            }
        }
        DUE.holds("25: some were brought to lowest terms", some);
        Roof.rule(x, "falls rate*rain;harms 0;wakes 0;");
        DUE.is("25: dry is by OVER, not by HARM", x.chance(0, 1, 0), isDry(99, 0) ? 1 : 0);
        x.fill(0, 99);
        DUE.is("25: nor if it harms nothing", x.chance(0, 20, 0), 0);
        x.set(1, 0, 1 << 12);
        x.fill(0, 0);
        DUE.is("25: by UP", x.chance(0, 1, 0), 1);
    }

    private static void chanceRefused() {
        UnderTheRoof x = new UnderTheRoof();
        int[][] bad = {{0, 0}, {21, 0}, {-1, 1}, {1, -1}, {1, 2}, {MOST, 0}, {LEAST, 0}, {20, MOST}, {20, LEAST}};
        for (int[] a : bad) {
            DUE.is("25: chance(0, " + a[0] + ", " + a[1] + ")", x.chance(0, a[0], a[1]), -4611686018427387904L);
        }
    }

    private static UnderTheRoof housed() {
        UnderTheRoof x = new UnderTheRoof();
        x.drip(3, 34, 5);
        x.drip(1, 21, 2);
        x.vessel(9);
        x.vessel(8);
        x.put(0, 5);
        x.fill(0, 4);
        Roof.rain(x, 1, 2, 3, 4);
        x.set(1, 0, 6);
        x.set(2, 0, 3);
        x.set(3, 0, 1);
        return x;
    }

    /** Promises 26 and 27. */
    private static void images() {
        UnderTheRoof x = housed();
        DUE.is("27: none yet", x.back(), -3);
        long[] was = Roof.state(x);
        DUE.is("26: image()", x.image(), 2);
        DUE.same("26: it changes nothing", Roof.state(x), was);
        for (int time = 0; time < 2; time++) {
            Roof.rainAll(x, 9);
            x.set(1, 0, 0);
            x.set(2, 0, 5);
            x.set(3, 0, 0);
            for (int drip = 0; drip < 2; drip++) {
                x.set(4, drip, 9);
                x.set(5, drip, 9);
                x.set(6, drip, 0);
            }
            x.put(0, -1);
            x.put(1, 5);
            x.fill(0, 0);
            x.fill(1, 8);
            x.drip(5, 0, 0);
            x.vessel(99);
            x.put(2, 7);
            x.fill(2, 50);
            DUE.is("27: back()", x.back(), 2);
            DUE.same("27: all as it was", Roof.state(x), was);
        }
        DUE.is("27: at once again", x.back(), 2);
        x.drip(2, 55, 7);
        DUE.is("26: another image", x.image(), 3);
        x.set(5, 2, 0);
        DUE.is("27: back to the other", x.back(), 3);
        DUE.is("27: as in the other", x.told(2, 2), 5);
        DUE.is("26: an image of no drips", new UnderTheRoof().image(), 0);
    }

    /** TEXTS, THE TAPE and SHEETS stay as they are; what comes anew is as new. */
    private static void imageKeepsNoMore() {
        UnderTheRoof x = new UnderTheRoof();
        x.image();
        x.vessel(40);
        x.put(0, 3);
        x.fill(0, 30);
        x.drip(4, 77, 7);
        Roof.read(x, "falls 7;harms 7;wakes 7;");
        Roof.feed(x, "abc");
        x.sheet(3, 0, 1);
        DUE.is("27: back to nothing", x.back(), 0);
        DUE.is("27: VESSELS", x.count(1), 0);
        DUE.is("27: WATER in all", x.count(8), 0);
        DUE.is("27: TEXTS stay", x.count(5), 2);
        DUE.is("27: THE TAPE stays", x.count(6), 3);
        DUE.is("27: SHEETS stay", x.cell(3, 0, 1), 1);
        DUE.is("27: a vessel anew", x.vessel(20), 0);
        DUE.is("27: it stands on none", x.told(0, 5), -1);
        DUE.is("27: it has no WATER", x.told(0, 6), 0);
        DUE.is("27: a drip anew", x.drip(0, 12, 3), 0);
        DUE.is("27: its KIND", x.told(0, 0), 0);
        DUE.is("27: its place is its own", x.falls(0, 0, 1), 3);
    }

    private static void imageOfRule() {
        UnderTheRoof x = new UnderTheRoof();
        x.drip(0, 0, 0);
        Roof.read(x, "falls 3;harms 3;wakes 3;");
        Roof.read(x, "falls 4;harms 4;wakes 4;");
        x.force(1);
        x.image();
        x.force(2);
        x.back();
        DUE.is("27: THE RULE", x.count(7), 1);
        DUE.is("27: what it tells", x.falls(0, 0, 0), 3);
    }
}
