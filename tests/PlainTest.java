import java.util.Random;

/**
 * Random runs of calls on UnderTheRoof and on Plain side by side: each answer must be the same. The seeds
 * are counted, so a run that fails fails again.
 */
public final class PlainTest {
    private static final int RUNS = 300;
    private static final int CALLS = 512;
    // What a call means, by how often it comes: the dear ones seldom.
    private static final String CHEAP = "set set set drip vessel put put fill told falls feed text force day water "
        + "pass lead gone tile more sorted seen strange drawn chance image back count sheet cell cell copy rains "
        + "rains copy taken letters";
    private static final String DEAR = "stand rise";

    private final Due due;
    private final Random random;
    private final int run;
    private final UnderTheRoof x = new UnderTheRoof();
    private final Plain y = new Plain();
    private int calls = 0;

    private PlainTest(Due due, int run) {
        this.due = due;
        this.run = run;
        this.random = new Random(run);
    }

    public static void main(String[] args) {
        Due due = new Due();
        for (int run = 0; run < RUNS; run++) {
            new PlainTest(due, run).go();
        }
        faults(due);
        due.end("PlainTest");
    }

    private void is(String call, long got, long want) {
        calls++;
        due.is("run " + run + ", call " + calls + ": " + call, got, want);
    }

    private void go() {
        String[] cheap = CHEAP.split(" ");
        String[] dear = DEAR.split(" ");
        if (run % 4 != 0) {
            settle();
        }
        while (calls < CALLS) {
            call(random.nextInt(120) == 0 ? dear[random.nextInt(dear.length)] : cheap[random.nextInt(cheap.length)]);
        }
    }

    /** Most runs begin with something to ask about. */
    private void settle() {
        for (int hour = 0; hour < 24; hour++) {
            int v = random.nextInt(3) == 0 ? 0 : random.nextInt(10);
            is("set(0, " + hour + ", " + v + ")", x.set(0, hour, v), y.set(0, hour, v));
        }
        for (int i = random.nextInt(6); i > 0; i--) {
            call("drip");
        }
        for (int i = random.nextInt(4); i > 0; i--) {
            call("vessel");
            call("put");
        }
        if (random.nextBoolean()) {
            call("letters");
            call("text");
            call("force");
        }
    }

    /** Mostly least .. most, at times beside it or far off. */
    private int some(int least, int most) {
        switch (random.nextInt(40)) {
            case 0:
                return least - 1;
            case 1:
                return most + 1;
            case 2:
                return random.nextInt();
            case 3:
                return random.nextBoolean() ? Integer.MIN_VALUE : Integer.MAX_VALUE;
            default:
                return least + random.nextInt(most - least + 1);
        }
    }

    private void call(String name) {
        switch (name) {
            case "set": case "drip": case "vessel": case "put": case "fill": case "told": case "falls":
                house(name);
                break;
            case "feed": case "letters": case "text": case "force":
                texts(name);
                break;
            case "seen": case "strange": case "drawn": case "chance": case "image": case "back": case "count":
                sight(name);
                break;
            case "sheet": case "cell": case "copy": case "rains": case "taken":
                host(name);
                break;
            default:
                days(name);
                break;
        }
    }

    private void house(String name) {
        int a;
        int b;
        int c;
        switch (name) {
            case "set":
                a = some(0, 6);
                b = a == 0 ? some(0, 23) : some(0, 5);
                c = a == 1 ? random.nextInt(4) == 0 ? some(0, (1 << 24) - 1) : someHours() : some(0, a == 3 ? 1 : 9);
                is("set(" + a + ", " + b + ", " + c + ")", x.set(a, b, c), y.set(a, b, c));
                break;
            case "drip":
                a = some(0, 5);
                b = some(0, 99);
                c = some(0, 7);
                is("drip(" + a + ", " + b + ", " + c + ")", x.drip(a, b, c), y.drip(a, b, c));
                break;
            case "vessel":
                a = some(1, random.nextBoolean() ? 99 : 12);
                is("vessel(" + a + ")", x.vessel(a), y.vessel(a));
                break;
            case "put":
                a = some(0, 4);
                b = some(-1, 7);
                is("put(" + a + ", " + b + ")", x.put(a, b), y.put(a, b));
                break;
            case "fill":
                a = some(0, 4);
                b = some(0, 20);
                is("fill(" + a + ", " + b + ")", x.fill(a, b), y.fill(a, b));
                break;
            case "told":
                a = some(0, 5);
                b = some(0, 6);
                is("told(" + a + ", " + b + ")", x.told(a, b), y.told(a, b));
                break;
            default:
                a = some(0, 5);
                b = some(0, 23);
                c = some(0, 1);
                is("falls(" + a + ", " + b + ", " + c + ")", x.falls(a, b, c), y.falls(a, b, c));
                break;
        }
    }

    private int someHours() {
        int bits = 0;
        for (int i = random.nextInt(5); i > 0; i--) {
            bits |= 1 << random.nextInt(24);
        }
        return bits;
    }

    private void texts(String name) {
        int a;
        switch (name) {
            case "feed":
                if (random.nextInt(4) == 0) {
                    a = some(0, 255);
                    is("feed(" + a + ")", x.feed(a), y.feed(a));
                }
                break;
            case "letters":
                if (random.nextInt(3) != 0) {
                    break;
                }
                String letters = new SomeText(random).letters();
                if (calls + letters.length() < CALLS && letters.length() < 120) {
                    for (int i = 0; i < letters.length(); i++) {
                        a = letters.charAt(i);
                        is("feed(" + a + ")", x.feed(a), y.feed(a));
                    }
                    is("text()", x.text(), y.text());
                }
                break;
            case "text":
                is("text()", x.text(), y.text());
                break;
            default:
                a = some(0, 5);
                is("force(" + a + ")", x.force(a), y.force(a));
                break;
        }
    }

    private void days(String name) {
        int a = some(0, 5);
        int b = some(0, 23);
        int c = some(0, 1);
        int n = some(0, 24);
        int more = some(1, 9);
        switch (name) {
            case "day":
                is("day(" + a + ")", x.day(a), y.day(a));
                break;
            case "water":
                a = c == 0 ? some(0, 4) : some(0, 7);
                is("water(" + a + ", " + b + ", " + c + ")", x.water(a, b, c), y.water(a, b, c));
                break;
            case "pass":
                if (random.nextInt(3) == 0) {
                    is("pass(" + n + ")", x.pass(n), y.pass(n));
                }
                break;
            case "stand":
                a = some(-1, 4);
                is("stand(" + a + ")", x.stand(a), y.stand(a));
                break;
            case "rise":
                a = some(0, 3);
                is("rise(" + a + ", " + c + ")", x.rise(a, c), y.rise(a, c));
                break;
            case "lead":
                is("lead(" + c + ")", x.lead(c), y.lead(c));
                break;
            case "gone":
                is("gone()", x.gone(), y.gone());
                break;
            case "tile":
                is("tile(" + a + ")", x.tile(a), y.tile(a));
                break;
            case "more":
                is("more(" + a + ", " + more + ")", x.more(a, more), y.more(a, more));
                break;
            default:
                is("sorted(" + c + ")", x.sorted(c), y.sorted(c));
                break;
        }
    }

    private void sight(String name) {
        int a = some(0, 3);
        int hour = some(0, 23);
        int c = some(0, 1);
        int seed = random.nextInt();
        int n = some(1, 20);
        switch (name) {
            case "seen":
                noteWater(a, hour);
                is("seen(" + a + ", " + hour + ", " + c + ")", x.seen(a, hour, c), y.seen(a, hour, c));
                break;
            case "strange":
                noteWater(a, hour);
                is("strange(" + a + ", " + hour + ")", x.strange(a, hour), y.strange(a, hour));
                break;
            case "drawn":
                is("drawn(" + seed + ")", x.drawn(seed), y.drawn(seed));
                break;
            case "chance":
                is("chance(" + seed + ", " + n + ", " + c + ")", x.chance(seed, n, c), y.chance(seed, n, c));
                break;
            case "image":
                is("image()", x.image(), y.image());
                break;
            case "back":
                if (random.nextInt(3) == 0) {
                    is("back()", x.back(), y.back());
                }
                break;
            default:
                a = some(0, 8);
                is("count(" + a + ")", x.count(a), y.count(a));
                break;
        }
    }

    /** Most sheets that are asked about tell what some set of drips would have left. */
    private void noteWater(int sheet, int hour) {
        int vessels = y.count(1);
        if (random.nextInt(5) == 0 || calls + vessels + 3 > CALLS) {
            return;
        }
        int sort = random.nextInt(3);
        is("sheet(" + sheet + ", " + sort + ", " + vessels + ")", x.sheet(sheet, sort, vessels),
            y.sheet(sheet, sort, vessels));
        int drip = random.nextInt(6);
        int was = random.nextInt(3) == 0 ? y.set(5, drip, 0) : Plain.BAD;
        for (int v = 0; v < vessels; v++) {
            int water = y.water(v, hour, 0);
            is("cell(" + sheet + ", " + v + ", " + water + ")", x.cell(sheet, v, water), y.cell(sheet, v, water));
        }
        if (was >= 0) {
            y.set(5, drip, was);
        }
    }

    private void host(String name) {
        int a = some(0, 3);
        int b;
        int c;
        int d;
        int e;
        switch (name) {
            case "sheet":
                b = random.nextBoolean() ? 1 : some(-1, 2);
                c = some(0, random.nextBoolean() ? 40 : 6);
                is("sheet(" + a + ", " + b + ", " + c + ")", x.sheet(a, b, c), y.sheet(a, b, c));
                break;
            case "cell":
                b = some(0, random.nextBoolean() ? 40 : 6);
                c = random.nextInt(6) == 0 ? random.nextInt() : some(0, b % 2 == 0 ? 24 : 10);
                is("cell(" + a + ", " + b + ", " + c + ")", x.cell(a, b, c), y.cell(a, b, c));
                break;
            case "copy":
                b = some(0, 6);
                c = random.nextInt(3) == 0 ? a : some(0, 3);
                d = some(0, 6);
                e = some(0, 6);
                is("copy(" + a + ", " + b + ", " + c + ", " + d + ", " + e + ")", x.copy(a, b, c, d, e),
                    y.copy(a, b, c, d, e));
                break;
            case "rains":
                b = random.nextInt(4) != 0 ? 1 : some(0, 2);
                c = some(0, 6);
                d = some(0, random.nextBoolean() ? 20 : 3);
                is("rains(" + a + ", " + b + ", " + c + ", " + d + ")", x.rains(a, b, c, d), y.rains(a, b, c, d));
                break;
            default:
                a = some(0, 5);
                b = some(0, 5);
                is("taken(" + a + ", " + b + ")", x.taken(a, b), y.taken(a, b));
                break;
        }
    }

    /** Texts alone, many of them: whole, spoilt and cut ones. */
    private static void faults(Due due) {
        Random random = new Random(4711);
        for (int i = 0; i < 20000; i++) {
            String letters = new SomeText(random).letters();
            UnderTheRoof x = new UnderTheRoof();
            Plain y = new Plain();
            for (int k = 0; k < letters.length(); k++) {
                x.feed(letters.charAt(k));
                y.feed(letters.charAt(k));
            }
            due.is("text() of '" + letters + "'", x.text(), y.text());
        }
    }
}
