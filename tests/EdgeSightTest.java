/**
 * Promises 22 to 27, and what "Terms" tells of SEEN, STRANGE, DRAWN, DRY and AN IMAGE: each edge on both sides,
 * none and all, seeds that wrap, which refusal comes first, and that it changes nothing.
 */
public final class EdgeSightTest {
    private static final Due DUE = new Due();
    private static final Script EDGE = new Script(DUE);
    /** Two DRIPS of RATE 1 and 2 above a VESSEL of SIZE 10, RAIN 1; SHEET 0 tells of one VESSEL. */
    private static final String[] TWO = {"drip(0, 1, 2) = 0", "drip(0, 2, 2) = 1", "vessel(10) = 0", "put(0, 2) = -1",
        "rain: all 1", "row: 0 0 3"};
    private static final String[] FIVE = {"vessel(1) = 0", "vessel(20) = 1", "vessel(30) = 2", "vessel(40) = 3",
        "vessel(99) = 4"};

    public static void main(String[] args) {
        seenRefused();
        seenSizes();
        seenNone();
        seenSets();
        seenHours();
        strangeRefused();
        strange();
        drawn();
        chanceRefused();
        chanceTerms();
        chanceSeeds();
        backOfNone();
        imageOfNothing();
        imageKeeps();
        imageAndWhatCameSince();
        imageKeepsRule();
        DUE.end("EdgeSightTest");
    }

    /** Promise 22: BAD: SHEET, HOUR, what; -11; BAD: its size. */
    private static void seenRefused() {
        EDGE.after(TWO, "22: SHEETS 0 .. 3", "seen(-1, 0, 0) = -2 !", "seen(4, 0, 0) = -2 !", "seen(MAX, 0, 0) = -2 !",
            "seen(MIN, 0, 0) = -2 !", "seen(1, 0, 0) = -11 !", "seen(3, 0, 0) = -11 !", "seen(0, 0, 0) = 1 ?",
            "row: 3 2 2", "seen(3, 0, 1) = 2 ?");
        EDGE.after(TWO, "22: HOURS, what", "seen(0, -1, 0) = -2 !", "seen(0, 24, 0) = -2 !", "seen(0, MAX, 0) = -2 !",
            "seen(0, MIN, 0) = -2 !", "seen(0, 0, -1) = -2 !", "seen(0, 0, 2) = -2 !", "seen(0, 0, MAX) = -2 !",
            "seen(0, 0, MIN) = -2 !", "seen(0, 23, 0) = 0 ?", "seen(0, 23, 1) = -1 ?");
        EDGE.after(TWO, "22: BAD ahead of -11", "seen(1, -1, 0) = -2 !", "seen(1, 24, 0) = -2 !",
            "seen(1, 0, -1) = -2 !", "seen(1, 0, 2) = -2 !", "seen(4, 24, 2) = -2 !");
        EDGE.after(TWO, "22: BAD, whatever its size", "row: 1 0 1 2", "seen(1, 24, 0) = -2 !", "seen(1, 0, 2) = -2 !",
            "seen(1, 0, 0) = -2 !");
        EDGE.after(TWO, "22: missing again", "sheet(0, -1, 1) = 1", "seen(0, 0, 0) = -11 !");
    }

    private static void seenSizes() {
        EDGE.run("22: no VESSEL", "sheet(0, 0, 0) = 1", "seen(0, 0, 0) = 1 ?", "seen(0, 0, 1) = 0 ?",
            "sheet(0, 0, 1) = 1", "seen(0, 0, 0) = -2 !");
        EDGE.after(FIVE, "22: five VESSELS", "sheet(0, 0, 4) = 1", "seen(0, 0, 0) = -2 !", "sheet(0, 0, 6) = 1",
            "seen(0, 0, 0) = -2 !", "sheet(0, 0, 40) = 1", "seen(0, 0, 0) = -2 !", "sheet(0, 0, 0) = 1",
            "seen(0, 0, 0) = -2 !", "sheet(0, 0, 5) = 1", "seen(0, 0, 0) = 1 ?", "cell(0, 4, 1) = 1",
            "seen(0, 0, 0) = 0 ?", "fill(4, 1) = 0", "seen(0, 0, 0) = 1 ?", "fill(0, 1) = 0", "seen(0, 0, 0) = 0 ?");
        EDGE.after(TWO, "22: a VESSEL that came", "seen(0, 0, 0) = 1", "vessel(5) = 1", "seen(0, 0, 0) = -2 !");
    }

    /** Sets of DRIPS, none too. */
    private static void seenNone() {
        EDGE.after(TWO, "22: none", "row: 0 0 0", "seen(0, 0, 0) = 1 ?", "seen(0, 0, 1) = 0 ?", "fill(0, 1) = 0",
            "seen(0, 0, 0) = 0 ?", "seen(0, 0, 1) = -1 ?");
        EDGE.after(FIVE, "22: no DRIPS", "row: 0 0 0 0 0 0 0", "seen(0, 23, 0) = 1", "seen(0, 23, 1) = 0",
            "fill(1, 5) = 0", "seen(0, 23, 0) = 0", "seen(0, 23, 1) = -1", "cell(0, 1, 5) = 1", "seen(0, 23, 0) = 1");
        EDGE.after(TWO, "22: below 0, above SIZE", "row: 0 0 -1", "seen(0, 0, 0) = 0", "row: 0 1 300",
            "seen(0, 0, 0) = 0", "row: 0 2 11", "seen(0, 23, 0) = 0", "row: 0 2 10", "seen(0, 23, 0) = 3",
            "seen(0, 23, 1) = 1");
    }

    /** All sets of six, the least of them as bits, the last alone. */
    private static void seenSets() {
        String[] six = {"drip(0, 1, 0) = 0", "drip(0, 1, 0) = 1", "drip(0, 1, 0) = 2", "drip(0, 1, 0) = 3",
            "drip(0, 1, 0) = 4", "drip(0, 1, 0) = 5", "rain: 1", "vessel(6) = 0", "put(0, 0) = -1"};
        int[] many = {1, 6, 15, 20, 15, 6, 1};
        for (int n = 0; n <= 6; n++) {
            EDGE.after(six, "22: sets of " + n, "row: 2 1 " + n, "seen(2, 0, 0) = " + many[n],
                "seen(2, 0, 1) = " + ((1 << n) - 1), "seen(2, 23, 0) = " + many[n]);
        }
        EDGE.after(six, "22: all sets", "put(0, -1) = 0", "row: 2 1 0", "seen(2, 0, 0) = 64", "seen(2, 0, 1) = 0");
        for (int drip = 0; drip < 6; drip++) {
            EDGE.after(six, "22: DRIP " + drip + " alone", "set(5, " + drip + ", 6) = 1", "row: 2 1 6",
                "seen(2, 0, 1) = " + (1 << drip));
        }
    }

    private static void seenHours() {
        for (int hour = 0; hour < 24; hour++) {
            EDGE.run("22: behind HOUR " + hour, "drip(0, 1, 0) = 0", "vessel(99) = 0", "put(0, 0) = -1", "rain: all 1",
                "row: 0 0 " + (hour + 1), "seen(0, " + hour + ", 0) = 1", "seen(0, " + (hour + 1) % 24 + ", 0) = 0",
                "row: 0 0 0", "seen(0, " + hour + ", 1) = 0");
        }
        EDGE.after(TWO, "22: by UP", "set(1, 0, 4) = 0", "row: 0 0 3", "seen(0, 2, 1) = 3", "seen(0, 1, 1) = -1",
            "row: 0 0 2", "seen(0, 1, 1) = 1", "seen(0, 2, 1) = 2");
    }

    /** Promise 23. */
    private static void strangeRefused() {
        EDGE.after(TWO, "23: SHEETS, HOURS", "strange(-1, 0) = -2 !", "strange(4, 0) = -2 !", "strange(MAX, 0) = -2 !",
            "strange(MIN, 0) = -2 !", "strange(0, -1) = -2 !", "strange(0, 24) = -2 !", "strange(0, MAX) = -2 !",
            "strange(0, MIN) = -2 !", "strange(1, 0) = -11 !", "strange(3, 23) = -11 !", "strange(0, 0) = -1 ?",
            "strange(0, 23) = -1 ?");
        EDGE.after(TWO, "23: BAD ahead of -11", "strange(1, -1) = -2 !", "strange(1, 24) = -2 !",
            "strange(4, 24) = -2 !");
        EDGE.after(TWO, "23: its size", "sheet(0, 0, 0) = 1", "strange(0, 0) = -2 !", "sheet(0, 0, 2) = 1",
            "strange(0, 0) = -2 !", "strange(0, 24) = -2 !", "sheet(0, 0, 1) = 1", "strange(0, 0) = -1");
    }

    private static void strange() {
        EDGE.after(TWO, "23: without which alone", "row: 0 0 2", "strange(0, 0) = 0 ?", "row: 0 0 1",
            "strange(0, 0) = 1 ?", "row: 0 0 0", "strange(0, 0) = -1 ?", "row: 0 0 3", "strange(0, 0) = -1 ?",
            "row: 0 0 10", "strange(0, 23) = 0", "fill(0, 10) = 0", "strange(0, 0) = 0");
        EDGE.run("23: no DRIPS", "sheet(0, 0, 0) = 1", "strange(0, 0) = -1 ?");
        EDGE.run("23: one DRIP", "drip(0, 1, 0) = 0", "rain: 1", "vessel(5) = 0", "put(0, 0) = -1", "row: 0 0 0",
            "strange(0, 0) = 0", "row: 0 0 1", "strange(0, 0) = -1");
        for (int drip = 0; drip < 6; drip++) {
            EDGE.run("23: DRIP " + drip + " of six", "drip(0, 1, 0) = 0", "drip(0, 1, 0) = 1", "drip(0, 1, 0) = 2",
                "drip(0, 1, 0) = 3", "drip(0, 1, 0) = 4", "drip(0, 1, 0) = 5", "rain: 1", "vessel(50) = 0",
                "put(0, 0) = -1", "set(5, " + drip + ", 9) = 1", "row: 0 0 5", "strange(0, 0) = " + drip, "row: 0 0 13",
                "strange(0, 0) = " + (drip == 0 ? 1 : 0));
        }
    }

    /** Promise 24: z is told here by longs, cut to 32 bits. */
    private static int[] rainBy(int seed) {
        int[] rain = new int[24];
        long z = seed & 0xFFFFFFFFL;
        for (int hour = 0; hour < 24; hour++) {
            z = z * 1103515245L + 12345L & 0xFFFFFFFFL;
            rain[hour] = (int) (z / 512 % 10);
        }
        return rain;
    }

    private static void drawn() {
        int[] seeds = {0, 1, -1, 9, -9, 12345, -77, Integer.MAX_VALUE, Integer.MAX_VALUE - 1, Integer.MIN_VALUE,
            Integer.MIN_VALUE + 1, 1 << 30, 1 << 9, 511};
        for (int seed : seeds) {
            int[] rain = rainBy(seed);
            for (int hour = 0; hour < 24; hour++) {
                EDGE.run("24: RAIN of HOUR " + hour, "rule: falls rain*(hour=" + hour + ");harms size;wakes rain*100;",
                    "drip(0, 0, 3) = 0", "drawn(" + seed + ") = " + rain[hour], "set(1, 0, " + (1 << hour) + ") = 0",
                    "drawn(" + seed + ") = " + (Math.min(999, 100 * rain[hour]) + rain[hour]));
            }
        }
        EDGE.after(TWO, "24: in thought", "drawn(5) = " + dueOf(5) + " ?", "drawn(MIN) = " + dueOf(Integer.MIN_VALUE)
            + " ?", "drawn(MAX) = " + dueOf(Integer.MAX_VALUE) + " ?", "set(0, 0, 1) = 1", "day(2) = 124");
        EDGE.run("24: no DRIPS", "drawn(0) = 0 ?", "set(1, 0, 3) = 0", "drawn(0) = 10");
    }

    /** COST of TWO by drawn rain: 3 pints for each RAIN, 10 of them caught. */
    private static int dueOf(int seed) {
        int sum = 0;
        for (int rain : rainBy(seed)) {
            sum += 3 * rain;
        }
        return 2 * (sum - 10);
    }

    /** Promise 25. */
    private static void chanceRefused() {
        String no = ") = -4611686018427387904 !";
        EDGE.run("25: n 1 .. 20, part", "chance(0, 0, 0" + no, "chance(0, 21, 0" + no, "chance(0, -1, 1" + no,
            "chance(0, MAX, 0" + no, "chance(0, MIN, 1" + no, "chance(0, 1, -1" + no, "chance(0, 1, 2" + no,
            "chance(0, 20, MAX" + no, "chance(0, 20, MIN" + no, "chance(0, 0, 2" + no, "chance(0, 1, 0) = 1 ?",
            "chance(0, 1, 1) = 1 ?", "chance(0, 20, 0) = 1 ?", "chance(0, 20, 1) = 1 ?");
    }

    private static boolean isDry(int seed, int most) {
        int sum = 0;
        for (int rain : rainBy(seed)) {
            sum += rain;
        }
        return sum <= most;
    }

    private static String[] oneOfSize(int size) {
        return new String[] {"drip(0, 1, 0) = 0", "vessel(" + size + ") = 0", "put(0, 0) = -1"};
    }

    /** Lowest terms: none dry is 0 by 1, all dry 1 by 1. */
    private static void chanceTerms() {
        EDGE.run("25: none dry", "drip(1, 0, 0) = 0", "chance(7, 1, 0) = 0 ?", "chance(7, 1, 1) = 1 ?",
            "chance(7, 20, 0) = 0 ?", "chance(7, 20, 1) = 1 ?", "chance(7, 19, 1) = 1");
        EDGE.run("25: all dry", "drip(0, 0, 0) = 0", "chance(7, 7, 0) = 1", "chance(7, 7, 1) = 1");
        boolean[] seen = new boolean[21];
        for (int size = 80; size <= 99; size++) {
            for (int seed = -200; seed < 200; seed += 7) {
                for (int n : new int[] {1, 2, 3, 4, 6, 12, 19, 20}) {
                    int dry = 0;
                    for (int i = 0; i < n; i++) {
                        dry += isDry(seed + i, size) ? 1 : 0;
                    }
                    if (n == 20 && seen[dry] || dry == 0) {
                        continue;
                    }
                    seen[dry] |= n == 20;
                    int gcd = java.math.BigInteger.valueOf(dry).gcd(java.math.BigInteger.valueOf(n)).intValue();
                    EDGE.after(oneOfSize(size), "25: " + dry + " of " + n,
                        "chance(" + seed + ", " + n + ", 0) = " + dry / gcd,
                        "chance(" + seed + ", " + n + ", 1) = " + n / gcd);
                }
            }
        }
    }

    /** Each seed 1 more, as an int: behind the last int comes the first. */
    private static void chanceSeeds() {
        int found = 0;
        for (int size = 70; size <= 99; size++) {
            int[] seeds = {Integer.MAX_VALUE - 1, Integer.MAX_VALUE, Integer.MIN_VALUE, Integer.MIN_VALUE + 1};
            int dry = 0;
            for (int seed : seeds) {
                dry += isDry(seed, size) ? 1 : 0;
            }
            int last = (isDry(seeds[1], size) ? 1 : 0) + (isDry(seeds[2], size) ? 1 : 0);
            found += dry > 0 ? 1 : 0;
            EDGE.after(oneOfSize(size), "25: seeds that wrap", "chance(2147483646, 4, 0) = " + (dry == 2 ? 1 : dry == 4
                ? 1 : dry), "chance(2147483646, 4, 1) = " + (dry == 0 || dry == 4 ? 1 : dry == 2 ? 2 : 4),
                "chance(MAX, 2, 0) = " + (last == 2 ? 1 : last), "chance(MAX, 2, 1) = " + (last == 1 ? 2 : 1));
        }
        DUE.holds("25: some seeds that wrap are dry", found > 0);
        EDGE.after(oneOfSize(99), "25: OVER, not what it harms", "rule: falls 9;harms 0;wakes 0;",
            "chance(0, 20, 0) = 0 ?", "chance(0, 20, 1) = 1 ?", "set(1, 0, 1049600) = 0", "chance(0, 20, 0) = 1");
    }

    /** Promise 27 ahead of 26. */
    private static void backOfNone() {
        EDGE.run("27: STATE", "back() = -3 !", "drip(0, 11, 1) = 0", "vessel(4) = 0", "back() = -3 !", "image() = 1",
            "back() = 1");
    }

    private static void imageOfNothing() {
        EDGE.run("26: no DRIPS", "image() = 0", "drip(0, 11, 1) = 0", "vessel(4) = 0", "set(0, 5, 5) = 0",
            "back() = 0", "count(0) = 0", "count(1) = 0", "set(0, 5, 1) = 0", "told(0, 0) = -100", "told(0, 4) = -100",
            "drip(5, 22, 2) = 0", "vessel(9) = 0", "told(0, 0) = 5", "told(0, 4) = 9");
    }

    private static final String[] HOUSED = {"drip(3, 34, 5) = 0", "drip(1, 21, 2) = 1", "vessel(9) = 0",
        "vessel(8) = 1",
        "put(0, 5) = -1", "fill(0, 4) = 0", "set(0, 0, 1) = 0", "set(0, 23, 2) = 0", "set(1, 0, 6) = 0",
        "set(2, 0, 3) = 2", "set(3, 0, 1) = 0"};

    /** Each thing for itself: it changes, and comes back. */
    private static void imageKeeps() {
        String[][] changes = {{"set(0, 0, 9) = 1", "set(0, 0, 1) = 1"}, {"set(0, 23, 0) = 2", "set(0, 23, 2) = 2"},
            {"set(0, 12, 9) = 0", "set(0, 12, 0) = 0"}, {"set(1, 0, 9) = 6", "count(2) = 6"},
            {"set(2, 0, 1) = 3", "count(3) = 3"}, {"set(3, 0, 0) = 1", "count(4) = 1"},
            {"set(4, 0, 9) = 3", "told(0, 1) = 3"}, {"set(4, 1, 9) = 2", "told(1, 1) = 2"},
            {"set(5, 0, 9) = 4", "told(0, 2) = 4"}, {"set(5, 1, 9) = 1", "told(1, 2) = 1"},
            {"set(6, 0, 7) = 5", "told(0, 3) = 5"}, {"set(6, 1, 7) = 2", "told(1, 3) = 2"},
            {"put(0, 7) = 5", "told(0, 5) = 5"}, {"put(1, 7) = -1", "told(1, 5) = -1"},
            {"fill(0, 9) = 4", "told(0, 6) = 4"}, {"fill(1, 8) = 0", "told(1, 6) = 0"},
            {"pass(24) = 162", "told(0, 6) = 4"}, {"drip(0, 0, 0) = 2", "told(2, 0) = -100"},
            {"vessel(1) = 2", "told(2, 4) = -100"}};
        for (String[] change : changes) {
            EDGE.after(HOUSED, "26, 27: kept", "image() = 2", change[0], "back() = 2", change[1],
                change[1], "back() = 2", "count(0) = 2", "count(1) = 2");
        }
    }

    /** What came since goes; the places that came free are taken anew, and THE IMAGE stays. */
    private static void imageAndWhatCameSince() {
        EDGE.after(HOUSED, "27: DRIPS, VESSELS that came since", "image() = 2", "drip(5, 99, 7) = 2",
            "drip(5, 99, 7) = 3", "drip(5, 99, 7) = 4", "drip(5, 99, 7) = 5", "drip(0, 0, 0) = -4", "vessel(99) = 2",
            "vessel(99) = 3", "vessel(99) = 4", "vessel(1) = -4", "put(4, 7) = -1", "fill(4, 99) = 0", "back() = 2",
            "count(0) = 2", "count(1) = 2", "count(8) = 4", "put(0, 7) = 5", "vessel(20) = 2", "told(2, 4) = 20",
            "told(2, 5) = -1", "told(2, 6) = 0", "drip(4, 12, 3) = 2", "told(2, 0) = 4", "told(2, 1) = 1", "back() = 2",
            "told(0, 5) = 5", "drip(0, 0, 0) = 2", "image() = 3", "back() = 3", "count(1) = 2");
        EDGE.after(HOUSED, "26: the newer image", "image() = 2", "set(0, 7, 7) = 0", "image() = 2", "set(0, 7, 8) = 7",
            "back() = 2", "set(0, 7, 7) = 7");
        EDGE.run("27: six and five", "drip(0, 0, 0) = 0", "drip(0, 0, 0) = 1", "drip(0, 0, 0) = 2", "drip(0, 0, 0) = 3",
            "drip(0, 0, 0) = 4", "drip(5, 98, 7) = 5", "vessel(1) = 0", "vessel(1) = 1", "vessel(1) = 2",
            "vessel(1) = 3", "vessel(99) = 4", "put(4, 7) = -1", "fill(4, 88) = 0", "image() = 6", "set(4, 5, 0) = 9",
            "set(5, 5, 0) = 8", "set(6, 5, 0) = 7", "put(4, 0) = 7", "fill(4, 0) = 88", "back() = 6", "told(5, 1) = 9",
            "told(5, 2) = 8", "told(5, 3) = 7", "told(4, 5) = 7", "told(4, 6) = 88", "drip(0, 0, 0) = -4",
            "vessel(1) = -4");
    }

    /** THE RULE is kept; TEXTS, THE TAPE, SHEETS are not. */
    private static void imageKeepsRule() {
        EDGE.run("27: THE RULE", "rule: falls 3;harms 3;wakes 3;", "image() = 0", "rule: falls 4;harms 4;wakes 4;",
            "count(7) = 2", "back() = 0", "count(7) = 1", "count(5) = 3", "drip(0, 0, 0) = 0", "falls(0, 0, 0) = 3",
            "force(2) = 1", "falls(0, 0, 0) = 4", "back() = 0", "count(7) = 1");
        EDGE.run("27: TEXTS, THE TAPE, SHEETS stay", "tape: falls", "row: 0 0 5 6", "image() = 0",
            "tape:  8;harms 8;wakes 8;", "row: 0 0 7 8", "row: 1 1 9", "back() = 0", "count(6) = 24", "text() = 1",
            "rains(0, 0, 0, 1) = 1", "set(0, 7, 0) = 8", "cell(1, 0, 1) = 1", "back() = 0", "count(5) = 2");
    }
}
