/**
 * Promises 15 to 21, and what "Terms" tells of STAND, RISE, LEAD, GONE, TILE, MORE, SORTED and CARRY: each edge
 * on both sides, none and all, what comes first of like ones, and that no question changes anything.
 */
public final class EdgeBestTest {
    private static final Due DUE = new Due();
    private static final Script EDGE = new Script(DUE);
    /** A DRIP of RATE 1 on PLACE 2 above a VESSEL of SIZE 10, RAIN 1 in each HOUR. */
    private static final String[] ONE = {"drip(0, 1, 2) = 0", "vessel(10) = 0", "put(0, 2) = -1", "rain: all 1"};
    private static final String[] SIX_DRIPS = {"drip(0, 1, 0) = 0", "drip(0, 2, 1) = 1", "drip(0, 3, 2) = 2",
        "drip(0, 4, 3) = 3", "drip(0, 5, 4) = 4", "drip(0, 6, 5) = 5", "rain: all 1"};
    private static final String[] FIVE = {"vessel(1) = 0", "vessel(20) = 1", "vessel(30) = 2", "vessel(40) = 3",
        "vessel(99) = 4"};

    /** Rules in which harms and wakes hang on each of the names. */
    private static final String[] RULES = {"falls rate*rain;harms size*2;wakes 5;",
        "falls rate*rain;harms size+gone*7+place;wakes gone*3+hour;",
        "falls rate+place;harms (size<9)*(gone+1)*(place+2)+hour*rain;wakes 40-gone;",
        "falls rate*rain;harms size*size-gone*gone;wakes rain*6;",
        "falls 3;harms (hour+1)*(place+1);wakes (23-hour)*2;"};

    public static void main(String[] args) {
        standRefused();
        standEdges();
        standTies();
        standOfAll();
        riseRefused();
        riseEdges();
        riseTies();
        riseAsksAnew();
        riseInEachHour();
        leadRefused();
        leadEdges();
        leadTies();
        leadFalls();
        gone();
        tiles();
        more();
        moreOfKinds();
        sorted();
        carry();
        for (int rule = 0; rule < RULES.length; rule++) {
            risesAsDays(rule);
            standsAsDays(rule);
            leadsAsDays(rule);
            tilesAsDays(rule);
            mostAsDays(rule);
        }
        DUE.end("EdgeBestTest");
    }

    /** Promise 15. */
    private static void standRefused() {
        EDGE.run("15: no VESSEL", "stand(-1) = 0 ?", "stand(0) = -2 !", "stand(-2) = -2 !");
        EDGE.after(ONE, "15: what NONE, or a VESSEL", "stand(-2) = -2 !", "stand(1) = -2 !", "stand(MAX) = -2 !",
            "stand(MIN) = -2 !", "stand(-1) = 28 ?", "stand(0) = 2 ?");
        EDGE.after(new String[] {"vessel(1) = 0", "vessel(1) = 1", "vessel(1) = 2"}, "15: of three",
            "stand(3) = -2 !", "stand(2) = 2 ?");
        EDGE.after(FIVE, "15: of five", "stand(5) = -2", "stand(6) = -2", "stand(4) = 4");
    }

    private static void standEdges() {
        EDGE.after(SIX_DRIPS, "15: no VESSEL, COST as now", "stand(-1) = 1008", "set(1, 0, 1) = 0", "stand(-1) = 1013");
        for (int place = 0; place < 8; place++) {
            EDGE.run("15: the only PLACE with a DRIP", "drip(0, 1, " + place + ") = 0", "rain: 1", "vessel(1) = 0",
                "stand(-1) = 0", "stand(0) = " + place, "day(2) = 2", "told(0, 5) = -1");
        }
        EDGE.after(ONE, "15: those that stand are put anew", "set(6, 0, 5) = 2", "put(0, 7) = 2", "stand(0) = 5",
            "stand(-1) = 28", "told(0, 5) = 7", "day(2) = 48");
        EDGE.after(ONE, "15: one that is full", "fill(0, 10) = 0", "stand(0) = 0", "stand(-1) = 48", "fill(0, 9) = 10",
            "stand(0) = 2", "stand(-1) = 46");
        EDGE.after(ONE, "15: what it costs to get up, by VESSELS that then stand", "put(0, -1) = 2", "fill(0, 10) = 0",
            "set(1, 0, 1) = 0", "stand(0) = 2", "stand(-1) = 33");
    }

    /** Of like ones the first: by VESSEL 0's PLACE, then VESSEL 1's. */
    private static void standTies() {
        EDGE.run("15: all alike", "vessel(5) = 0", "vessel(5) = 1", "vessel(5) = 2", "put(0, 7) = -1", "put(1, 6) = -1",
            "stand(0) = 0", "stand(1) = 1", "stand(2) = 2", "stand(-1) = 0");
        EDGE.run("15: two alike beneath two alike", "drip(0, 1, 6) = 0", "drip(0, 1, 3) = 1", "rain: all 1",
            "vessel(9) = 0", "vessel(9) = 1", "stand(0) = 3", "stand(1) = 6", "stand(-1) = 60");
        EDGE.run("15: the first stays low though the second must be beneath", "drip(0, 1, 0) = 0", "rain: 1 1 1",
            "vessel(1) = 0", "vessel(3) = 1", "stand(0) = 1", "stand(1) = 0", "stand(-1) = 0", "fill(1, 1) = 0",
            "stand(0) = 1", "stand(1) = 0", "stand(-1) = 2", "fill(1, 2) = 1", "stand(0) = 0", "stand(1) = 1",
            "stand(-1) = 4");
    }

    private static void standOfAll() {
        EDGE.run("15: five VESSELS, one way", "drip(0, 1, 7) = 0", "drip(0, 2, 6) = 1", "drip(0, 3, 4) = 2",
            "drip(0, 4, 2) = 3", "drip(0, 5, 1) = 4", "rain: 1", "vessel(1) = 0", "vessel(2) = 1", "vessel(3) = 2",
            "vessel(4) = 3", "vessel(5) = 4", "stand(-1) = 0", "stand(0) = 7", "stand(1) = 6", "stand(2) = 4",
            "stand(3) = 2", "stand(4) = 1");
    }

    /** Promise 16. */
    private static void riseRefused() {
        EDGE.after(ONE, "16: k 0 .. 3, what", "rise(-1, 0) = -2 !", "rise(4, 0) = -2 !", "rise(MAX, 0) = -2 !",
            "rise(MIN, 1) = -2 !", "rise(0, -1) = -2 !", "rise(0, 2) = -2 !", "rise(3, MAX) = -2 !",
            "rise(3, MIN) = -2 !", "rise(0, 0) = 28 ?", "rise(0, 1) = 0 ?", "rise(1, 0) = 13 ?", "rise(1, 1) = 1024 ?",
            "rise(2, 0) = 10 ?", "rise(2, 1) = 16400 ?", "rise(3, 0) = 15", "rise(3, 1) = 16401");
    }

    /** Just k HOURS: not UP as it is, and not fewer. */
    private static void riseEdges() {
        EDGE.after(ONE, "16: UP does not count", "set(1, 0, 16777215) = 0", "rise(0, 0) = 28", "rise(0, 1) = 0",
            "rise(1, 0) = 13", "rise(2, 1) = 16400", "day(2) = 120", "count(2) = 16777215");
        EDGE.run("16: just k, though fewer cost less", "rise(0, 0) = 0", "rise(1, 0) = 5", "rise(2, 0) = 10",
            "rise(3, 0) = 15");
        EDGE.run("16: just k, though more cost less", "rule: falls rate;harms gone*90;wakes 1;", "drip(0, 1, 0) = 0",
            "rise(0, 1) = 0", "rise(1, 1) = 4096", "rise(2, 1) = 65792", "rise(3, 1) = 266304");
    }

    /** Of like ones the least as bits. */
    private static void riseTies() {
        EDGE.run("16: all alike", "rise(0, 1) = 0", "rise(1, 1) = 1", "rise(2, 1) = 3", "rise(3, 1) = 7");
        EDGE.run("16: the HOURS that cost least", "rule: falls 0;harms 0;wakes 9-hour*(hour<9);", "rise(1, 1) = 256",
            "rise(2, 1) = 384", "rise(3, 1) = 448", "rise(3, 0) = 6");
        EDGE.run("16: not before HOUR 20", "rule: falls 0;harms 0;wakes (hour<20)*7;", "rise(1, 1) = 1048576",
            "rise(2, 1) = 3145728", "rise(3, 1) = 7340032", "rise(3, 0) = 0");
        EDGE.run("16: the last three", "rule: falls 0;harms 0;wakes (hour<21)*7;", "rise(3, 1) = 14680064",
            "rise(3, 0) = 0");
        EDGE.run("16: one in each third", "rule: falls 0;harms 0;wakes 3-(hour=2)-(hour=13)*2-(hour=22)*3;",
            "rise(1, 1) = 4194304", "rise(2, 1) = 4202496", "rise(3, 1) = 4202500", "rise(3, 0) = 3");
    }

    /** OVER and gone of the same HOUR and PLACE are others by each set: harms is asked anew. */
    private static void riseAsksAnew() {
        String[] two = {"vessel(50) = 0", "vessel(50) = 1", "put(0, 0) = -1", "put(1, 1) = -1", "fill(0, 1) = 0",
            "drip(0, 0, 0) = 0", "drip(0, 0, 1) = 1", "set(2, 0, 1) = 2"};
        EDGE.after(two, "16: by HOUR 6 VESSEL 1 is the fuller one",
            "rule: falls (place=0)*(hour=10)*60+(place=1)*(hour=5)*3;harms size+100*(not gone=4);wakes 0;",
            "rise(1, 0) = 11", "rise(1, 1) = 64");
        EDGE.after(two, "16: by HOURS 0 and 9 VESSEL 0 is empty in HOUR 8",
            "rule: falls (place=0)*(hour=8)*60+(place=1)*(4<hour)*(hour<8)*3;harms size+100*(not gone=8);wakes 0;",
            "rise(2, 0) = 10", "rise(2, 1) = 513");
    }

    private static void riseInEachHour() {
        for (int hour = 0; hour < 24; hour++) {
            EDGE.run("16: HOUR " + hour, "rule: falls 0;harms 0;wakes not hour=" + hour + ";",
                "rise(1, 1) = " + (1 << hour), "rise(1, 0) = 0", "rise(2, 1) = " + (1 << hour | (hour == 0 ? 2 : 1)),
                "rise(2, 0) = 1");
        }
    }

    /** Promise 17. */
    private static void leadRefused() {
        EDGE.run("17: no DRIPS", "lead(-1) = -2 !", "lead(2) = -2 !", "lead(MAX) = -2 !", "lead(MIN) = -2 !",
            "lead(0) = -1 ?", "lead(1) = 0 ?", "set(1, 0, 3) = 0", "lead(0) = -1 ?", "lead(1) = 10 ?");
        EDGE.after(ONE, "17: what", "lead(-1) = -2 !", "lead(2) = -2 !", "lead(0) = -1 ?", "lead(1) = 28 ?");
    }

    private static void leadEdges() {
        for (int place = 0; place < 8; place++) {
            EDGE.run("17: PLACE " + place, "drip(0, 1, " + (place + 1) % 8 + ") = 0", "rain: 1", "vessel(1) = 0",
                "put(0, " + place + ") = -1", "lead(0) = " + place, "lead(1) = 0", "day(2) = 2",
                "told(0, 3) = " + (place + 1) % 8);
        }
        for (int drip = 0; drip < 6; drip++) {
            EDGE.after(SIX_DRIPS, "17: DRIP " + drip, "vessel(99) = 0", "put(0, 7) = -1", "rain: all 0",
                "rain: 1", "set(5, " + drip + ", 9) = " + (drip + 1), "lead(0) = " + (10 * drip + 7));
        }
        EDGE.after(ONE, "17: if less than now: not if alike", "lead(0) = -1", "vessel(10) = 1", "put(1, 7) = -1",
            "lead(0) = -1", "lead(1) = 28", "vessel(11) = 2", "put(2, 6) = -1", "lead(0) = 6", "lead(1) = 26");
    }

    /** Of like ones the first DRIP, then the first PLACE. */
    private static void leadTies() {
        EDGE.run("17: like ones", "drip(0, 1, 3) = 0", "drip(0, 1, 4) = 1", "rain: all 1", "vessel(9) = 0",
            "vessel(9) = 1", "put(0, 6) = -1", "put(1, 5) = -1", "lead(0) = 5", "set(5, 0, 0) = 1", "lead(0) = 15",
            "put(1, -1) = 5", "lead(0) = 16", "set(5, 0, 1) = 0", "lead(0) = 6");
        EDGE.run("17: the later one, if it costs less", "drip(0, 1, 3) = 0", "drip(0, 2, 4) = 1", "rain: all 1",
            "vessel(99) = 0", "put(0, 6) = -1", "lead(0) = 16", "lead(1) = 48", "set(5, 0, 2) = 1", "lead(0) = 6");
    }

    /** As much as it FALLS, by its KIND; falls told for that PLACE. */
    private static void leadFalls() {
        String rule = "rule: falls 40-place*4;harms size;wakes 0;";
        EDGE.run("17: a DRIP", rule, "drip(0, 0, 0) = 0", "lead(0) = 7", "lead(1) = 288");
        EDGE.run("17: STEADY", rule, "drip(1, 0, 0) = 0", "lead(0) = 7", "lead(1) = 312");
        EDGE.run("17: WANDERING, by RAIN as NUMBER", rule, "drip(2, 30, 0) = 0", "rain: all 3", "lead(1) = 288");
        EDGE.run("17: WANDERING, by RAIN above NUMBER", rule, "drip(2, 30, 0) = 0", "rain: all 4", "lead(0) = 7",
            "lead(1) = 144");
        EDGE.run("17: HIDDEN", rule, "drip(3, 90, 0) = 0", "lead(0) = 7", "lead(1) = 390");
        EDGE.run("17: LED", rule, "drip(4, 30, 0) = 0", "day(2) = 216", "rain: all 4", "lead(0) = 7", "lead(1) = 144",
            "day(2) = 216");
        EDGE.run("17: NEW", rule, "drip(5, 0, 0) = 0", "lead(0) = 7", "lead(1) = 156");
        EDGE.run("17: WANDERING, led to its own PLACE", "drip(2, 2, 7) = 0", "rain: 1", "vessel(5) = 0",
            "put(0, 7) = -1", "lead(0) = 7", "lead(1) = 0", "day(2) = 2");
    }

    /** Promise 18. */
    private static void gone() {
        EDGE.run("18: none is OVER", "gone() = 24 ?", "set(1, 0, 16777215) = 0", "gone() = 24 ?");
        for (int hour = 0; hour < 24; hour++) {
            EDGE.run("18: HOUR " + hour, "drip(0, 1, 7) = 0", "set(0, " + hour + ", 1) = 0", "gone() = " + hour,
                "vessel(1) = 0", "put(0, 7) = -1", "gone() = 24");
        }
        EDGE.after(ONE, "18: were no HOUR UP", "gone() = 10 ?", "set(1, 0, 1056) = 0", "day(4) = 20", "gone() = 10 ?",
            "count(2) = 1056", "fill(0, 10) = 0", "gone() = 0", "fill(0, 0) = 10", "set(0, 23, 0) = 1",
            "vessel(23) = 1", "put(0, -1) = 2", "put(1, 2) = -1", "gone() = 24", "set(0, 23, 1) = 0", "gone() = 23");
    }

    /** Promise 19. */
    private static void tiles() {
        EDGE.run("19: no such DRIP", "tile(0) = -100000 !", "tile(-1) = -100000 !");
        EDGE.after(SIX_DRIPS, "19: of six", "tile(0) = 48 ?", "tile(5) = 288 ?", "tile(6) = -100000 !",
            "tile(-1) = -100000 !", "tile(MAX) = -100000 !", "tile(MIN) = -100000 !", "count(0) = 6");
        EDGE.after(ONE, "19: what goes into a VESSEL", "tile(0) = 28 ?", "tile(1) = -100000 !", "vessel(24) = 1",
            "put(0, -1) = 2", "put(1, 2) = -1", "tile(0) = 0");
        EDGE.run("19: less than 0", "rule: falls 1;harms 3-size*(size<3);wakes 0;", "drip(0, 0, 0) = 0",
            "drip(0, 0, 0) = 1", "day(2) = 24", "tile(0) = -24", "tile(1) = -24");
    }

    /** Promise 20. */
    private static void more() {
        EDGE.run("20: no such DRIP", "more(0, 1) = -100000 !", "more(-1, 1) = -100000 !");
        EDGE.after(SIX_DRIPS, "20: of six", "more(0, 0) = -100000 !", "more(0, 1) = 48 ?", "more(0, 9) = 432 ?",
            "more(0, 10) = -100000 !", "more(0, -1) = -100000 !", "more(0, MAX) = -100000 !",
            "more(0, MIN) = -100000 !",
            "more(5, 1) = 288 ?", "more(5, 9) = 2592 ?", "more(6, 1) = -100000 !", "more(-1, 9) = -100000 !",
            "more(MAX, 1) = -100000 !", "more(MIN, 1) = -100000 !", "count(0) = 6", "drip(0, 0, 0) = -4");
        EDGE.after(ONE, "20: a VESSEL's rest", "more(0, 1) = 48", "set(0, 23, 0) = 1", "vessel(46) = 1",
            "put(0, -1) = 2", "put(1, 2) = -1", "more(0, 1) = 0", "more(0, 2) = 46", "set(0, 23, 1) = 0",
            "more(0, 1) = 4");
        EDGE.run("20: less than 0", "rule: falls 1;harms 3-size*(size<3);wakes 0;", "drip(0, 0, 0) = 0",
            "day(2) = 48", "more(0, 1) = -24", "more(0, 2) = 24");
    }

    /** Those like it fall by its KIND, on its PLACES: nine more, each with its own bounds. */
    private static void moreOfKinds() {
        for (int n = 1; n <= 9; n++) {
            String of = "more(0, " + n + ") = ";
            EDGE.run("20: LED, 9 at most for each", "rule: falls 99;harms size;wakes 0;", "drip(4, 90, 0) = 0",
                of + 216 * n);
            EDGE.run("20: 99 at most for each", "rule: falls 100;harms size*(size=99*" + (n + 1) + ");wakes 0;",
                "drip(0, 90, 0) = 0", of + (n < 9 ? 24 * 99 * (n + 1) : 24 * 990));
            EDGE.run("20: half, cut, of each", "rule: falls 7;harms size;wakes 0;", "drip(2, 0, 0) = 0", "rain: all 1",
                of + 72 * n);
            EDGE.run("20: NEW", "rule: falls 0;harms size;wakes 0;", "drip(5, 0, 0) = 0", of + 12 * n);
            EDGE.run("20: HIDDEN", "rule: falls 0;harms size;wakes 0;", "drip(3, 90, 0) = 0", of + 30 * n);
        }
    }

    /** Promise 21. */
    private static void sorted() {
        EDGE.run("21: what", "sorted(-1) = -100000 !", "sorted(2) = -100000 !", "sorted(MAX) = -100000 !",
            "sorted(MIN) = -100000 !", "sorted(0) = 0 ?", "sorted(1) = 1 ?");
        String[] two = {"vessel(10) = 0", "vessel(30) = 1", "put(0, 0) = -1", "put(1, 1) = -1", "fill(0, 10) = 0",
            "fill(1, 12) = 0", "drip(0, 4, 0) = 0", "rain: 1", "set(1, 0, 1) = 0", "set(2, 0, 1) = 2"};
        EDGE.after(two, "21: the SORT that isn't now", "day(2) = 13", "sorted(0) = -8 ?", "set(3, 0, 1) = 0",
            "day(2) = 5", "sorted(0) = 8 ?", "count(4) = 1", "set(2, 0, 2) = 1", "sorted(0) = 0", "set(1, 0, 0) = 1",
            "sorted(0) = 0");
    }

    /** CARRY: 1 .. 5, whatever HANDS there are. */
    private static void carry() {
        String[] five = {"vessel(11) = 0", "vessel(12) = 1", "vessel(13) = 2", "vessel(14) = 3", "vessel(15) = 4",
            "put(0, 0) = -1", "put(1, 1) = -1", "put(2, 2) = -1", "put(3, 3) = -1", "put(4, 4) = -1", "fill(0, 11) = 0",
            "fill(1, 12) = 0", "fill(2, 13) = 0", "fill(3, 14) = 0", "fill(4, 15) = 0", "rain: 1", "set(1, 0, 1) = 0"};
        EDGE.after(five, "21: CARRY with nothing that falls", "sorted(1) = 1", "set(2, 0, 5) = 2", "sorted(1) = 1");
        for (int place = 0; place < 5; place++) {
            for (int hands = 1; hands <= 5; hands++) {
                EDGE.after(five, "21: CARRY", "drip(0, 1, " + place + ") = 0", "set(2, 0, " + hands + ") = 2",
                    "sorted(1) = " + (5 - place), "count(3) = " + hands, "day(2) = " + (hands >= 5 - place ? 5 : 7));
            }
        }
        EDGE.run("21: CARRY, if more HANDS cost more",
            "rule: falls rate*rain;harms 30-size;wakes 0;", "vessel(30) = 0", "vessel(40) = 1",
            "put(0, 0) = -1", "put(1, 1) = -1", "fill(0, 30) = 0", "fill(1, 40) = 0", "drip(0, 9, 0) = 0",
            "drip(0, 9, 1) = 1", "rain: 0 4", "set(1, 0, 1) = 0", "sorted(1) = 1");
    }

    private static UnderTheRoof house(int rule, int drips, int more) {
        UnderTheRoof x = new UnderTheRoof();
        Roof.rule(x, RULES[rule]);
        int[][] all = {{0, 2, 1}, {1, 11, 4}, {3, 51, 4}, {5, 2, 6}};
        for (int drip = 0; drip < 4; drip++) {
            for (int n = drip == drips ? more : 1; n > 0; n--) {
                x.drip(all[drip][0], all[drip][1], all[drip][2]);
            }
        }
        x.vessel(17);
        x.vessel(9);
        x.vessel(30);
        x.put(0, 4);
        x.put(1, 1);
        x.fill(1, 5);
        Roof.rain(x, 1, 0, 2, 5, 9, 1, 0, 0, 3, 4, 4, 4, 1, 2, 0, 0, 7, 6, 0, 1, 1, 1, 0, 9);
        x.set(2, 0, 1);
        return x;
    }

    /** RISE against all the days by one HOUR, and by two of them, asked one by one. */
    private static void risesAsDays(int rule) {
        UnderTheRoof x = house(rule, 0, 1);
        int[] least = {Integer.MAX_VALUE, Integer.MAX_VALUE, Integer.MAX_VALUE};
        int[] bits = new int[3];
        for (int one = 0; one < 24; one++) {
            for (int two = 0; two <= one; two++) {
                int up = 1 << one | 1 << two;
                x.set(1, 0, up);
                int cost = x.day(2);
                int k = Integer.bitCount(up);
                if (cost < least[k] || cost == least[k] && up < bits[k]) {
                    least[k] = cost;
                    bits[k] = up;
                }
            }
            x = one % 8 == 7 ? house(rule, 0, 1) : x;
        }
        for (int k = 1; k <= 2; k++) {
            DUE.is("16: as days, rule " + rule + ", k " + k + ", COST", x.rise(k, 0), least[k]);
            DUE.is("16: as days, rule " + rule + ", k " + k + ", HOURS", x.rise(k, 1), bits[k]);
        }
    }

    /** STAND against all the days by each way to put three VESSELS. */
    private static void standsAsDays(int rule) {
        int least = Integer.MAX_VALUE;
        int best = 0;
        for (int a = 0; a < 8; a++) {
            for (int b = 0; b < 8; b++) {
                UnderTheRoof x = house(rule, 0, 1);
                x.set(1, 0, 1 << 9 | 1 << 10 | 1 << 18);
                x.put(0, -1);
                x.put(1, -1);
                for (int c = 0; c < 8; c++) {
                    if (a != b && b != c && a != c) {
                        x.put(2, c);
                        x.put(0, a);
                        x.put(1, b);
                        int cost = x.day(2);
                        x.put(0, -1);
                        x.put(1, -1);
                        best = cost < least ? 64 * a + 8 * b + c : best;
                        least = Math.min(least, cost);
                    }
                }
            }
        }
        UnderTheRoof x = house(rule, 0, 1);
        x.set(1, 0, 1 << 9 | 1 << 10 | 1 << 18);
        DUE.is("15: as days, rule " + rule + ", COST", x.stand(-1), least);
        for (int v = 0; v < 3; v++) {
            DUE.is("15: as days, rule " + rule + ", VESSEL " + v, x.stand(v), best >> 6 - 3 * v & 7);
        }
    }

    /** LEAD against days: DRIPS that don't wander fall as if that PLACE were their own. */
    private static void leadsAsDays(int rule) {
        UnderTheRoof x = house(rule, 0, 1);
        x.set(1, 0, 1 << 9 | 1 << 10 | 1 << 18);
        int least = x.day(2);
        int best = -1;
        for (int drip = 0; drip < 4; drip++) {
            int own = x.told(drip, 3);
            for (int place = 0; place < 8; place++) {
                x.set(6, drip, place);
                int cost = x.day(2);
                best = cost < least ? 10 * drip + place : best;
                least = Math.min(least, cost);
            }
            x.set(6, drip, own);
        }
        DUE.is("17: as days, rule " + rule, x.lead(0), best);
        DUE.is("17: as days, rule " + rule + ", COST", x.lead(1), least);
    }

    /** TILE and MORE against days of a house that has none, or more, of a DRIP. */
    private static void tilesAsDays(int rule) {
        for (int drip = 0; drip < 4; drip++) {
            UnderTheRoof x = house(rule, 0, 1);
            int cost = x.day(2);
            DUE.is("19: as days, rule " + rule + ", DRIP " + drip, x.tile(drip), cost - house(rule, drip, 0).day(2));
            for (int n = 1; n <= 2; n++) {
                DUE.is("20: as days, rule " + rule + ", DRIP " + drip + ", " + n + " more", x.more(drip, n),
                    house(rule, drip, 1 + n).day(2) - cost);
            }
        }
    }

    /** SORTED, CARRY and GONE against days. */
    private static void mostAsDays(int rule) {
        for (int hour = 0; hour < 24; hour++) {
            UnderTheRoof x = house(rule, 0, 1);
            x.put(2, 6);
            x.fill(2, 29);
            DUE.is("18: as days, rule " + rule, x.gone(), x.day(4));
            x.set(1, 0, 1 << hour | 1 << 20);
            int cost = x.day(2);
            int sorted = x.sorted(0);
            x.set(3, 0, 1);
            DUE.is("21: as days, rule " + rule, sorted, x.day(2) - cost);
            x.set(3, 0, 0);
            int carry = x.sorted(1);
            x.set(2, 0, 5);
            cost = x.day(2);
            int hands = 1;
            x.set(2, 0, 1);
            while (x.day(2) > cost) {
                hands++;
                x.set(2, 0, hands);
            }
            DUE.is("21: as days, CARRY, rule " + rule, carry, hands);
        }
    }
}
