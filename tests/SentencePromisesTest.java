import java.io.IOException;
import java.util.Arrays;

/**
 * The document from promise 1 to its last line, each sentence with a run that would answer otherwise if it did not
 * hold: what the call answers, what it leaves, and each refusal. SentenceTermsTest has what stands ahead.
 */
public final class SentencePromisesTest {
    private static final Due DUE = new Due();
    private static final String WHOLE = "falls 1;harms 1;wakes 1;";
    private static Quotes doc;

    public static void main(String[] args) throws IOException {
        doc = new Quotes(DUE, "## Promise 1:", "");
        house();
        texts();
        days();
        best();
        more();
        sight();
        images();
        sheets();
        copies();
        doc.says("## Not promised How the state is held inside the object is free, as are the speed of each call, the "
            + "text of toString and the behaviour of equals and hashCode. Use of one object from several threads at once "
            + "is not promised to be safe. Nothing is promised beyond the answers and state changes described above, "
            + "and nothing about an object after its 512th call.");
        doc.end();
        DUE.end("SentencePromisesTest");
    }

    private static String[] joined(String[] setup, String... lines) {
        String[] all = Arrays.copyOf(setup, setup.length + lines.length);
        System.arraycopy(lines, 0, all, setup.length, lines.length);
        return all;
    }

    private static void house() {
        doc.says("## Promise 1: A new object `UnderTheRoof()`: No DRIPS, no VESSELS, no rain.", "count(0) = 0",
            "count(1) = 0", "told(0, 0) = -100", "told(0, 4) = -100", "day(5) = 0", "day(2) = 0", "set(0, 0, 1) = 0",
            "set(0, 23, 1) = 0", "drip(0, 0, 0) = 0", "vessel(1) = 0", "back() = -3");
        doc.says("## Promise 2: set `int set(int what, int of, int v)`: RAIN of an HOUR (what 0; of: which), UP (1; by 1 .. 3 "
            + "of does not matter), HANDS (2), SORT (3), NUMBER (4), RATE (5), PLACE (6) of a DRIP becomes v: what it was.",
            "drip(0, 12, 3) = 0", "drip(0, 45, 6) = 1", "set(0, 7, 8) = 0", "set(0, 7, 9) = 8", "set(1, MIN, 9) = 0",
            "set(1, 99, 10) = 9", "set(2, MAX, 3) = 2", "set(2, -1, 4) = 3", "set(3, 7, 1) = 0", "set(3, 24, 1) = 1",
            "set(4, 1, 9) = 4", "set(5, 1, 8) = 5", "set(6, 1, 7) = 6", "told(0, 1) = 1", "told(0, 2) = 2",
            "told(0, 3) = 3", "told(1, 1) = 9", "told(1, 2) = 8", "told(1, 3) = 7", "count(2) = 10", "count(3) = 4",
            "count(4) = 1", "falls(0, 7, 0) = 18", "falls(0, 6, 0) = 0");
        doc.says("BAD.", "drip(0, 0, 0) = 0", "set(-1, 0, 0) = -2 !", "set(7, 0, 0) = -2 !", "set(0, 24, 1) = -2 !",
            "set(0, -1, 1) = -2 !", "set(0, 0, 10) = -2 !", "set(1, 0, 16777216) = -2 !", "set(2, 0, 0) = -2 !",
            "set(2, 0, 6) = -2 !", "set(3, 0, 2) = -2 !", "set(4, 1, 0) = -2 !", "set(4, -1, 0) = -2 !",
            "set(4, 0, 10) = -2 !", "set(5, 1, 0) = -2 !", "set(5, 0, 10) = -2 !", "set(6, 1, 0) = -2 !",
            "set(6, 0, 8) = -2 !", "set(6, 0, -1) = -2 !");
        doc.says("## Promise 3: drip `int drip(int kind, int what, int place)`: A DRIP (what: 10 times NUMBER, and RATE): its "
            + "number.", "drip(3, 47, 6) = 0", "drip(5, 99, 0) = 1", "told(0, 0) = 3", "told(0, 1) = 4",
            "told(0, 2) = 7", "told(0, 3) = 6", "told(1, 1) = 9", "told(1, 2) = 9", "count(0) = 2");
        doc.says("BAD; FULL.", "drip(-1, 0, 0) = -2 !", "drip(6, 0, 0) = -2 !", "drip(0, -1, 0) = -2 !",
            "drip(0, 100, 0) = -2 !", "drip(0, 0, -1) = -2 !", "drip(0, 0, 8) = -2 !", "drip(0, 0, 0) = 0",
            "drip(0, 0, 0) = 1", "drip(0, 0, 0) = 2", "drip(0, 0, 0) = 3", "drip(0, 0, 0) = 4", "drip(0, 0, 0) = 5",
            "drip(0, 0, 0) = -4 !", "drip(6, 0, 0) = -2 !", "drip(0, 100, 0) = -2 !", "drip(0, 0, 8) = -2 !");
        doc.says("## Promise 4: vessel `int vessel(int size)`: A VESSEL: its number.", "vessel(5) = 0", "vessel(99) = 1",
            "told(0, 4) = 5", "told(1, 4) = 99", "told(1, 5) = -1", "told(1, 6) = 0", "count(1) = 2");
        doc.says("BAD; FULL.", "vessel(0) = -2 !", "vessel(100) = -2 !", "vessel(1) = 0", "vessel(1) = 1", "vessel(1) = 2",
            "vessel(1) = 3", "vessel(1) = 4", "vessel(1) = -4 !", "vessel(0) = -2 !");
        doc.says("## Promise 5: put `int put(int vessel, int place)`: A VESSEL stands on a PLACE, or on none (NONE): where it "
            + "stood.", "vessel(5) = 0", "vessel(5) = 1", "put(0, 4) = -1", "put(0, 4) = 4", "put(0, 7) = 4",
            "put(1, 4) = -1", "put(0, -1) = 7", "put(0, -1) = -1", "put(1, 7) = 4", "told(0, 5) = -1", "told(1, 5) = 7");
        doc.says("BAD; STATE: another one stands there.", "vessel(5) = 0", "vessel(5) = 1", "put(0, 4) = -1",
            "put(1, 4) = -3 !", "put(2, 4) = -2 !", "put(-1, 4) = -2 !", "put(1, 8) = -2 !", "put(1, -2) = -2 !",
            "put(1, -1) = -1", "put(0, -1) = 4", "put(1, -1) = -1", "put(1, 4) = -1", "put(0, 4) = -3 !");
        doc.says("## Promise 6: fill `int fill(int vessel, int v)`: WATER of a VESSEL becomes v: what it was.",
            "vessel(5) = 0", "vessel(9) = 1", "fill(1, 9) = 0", "fill(1, 3) = 9", "fill(0, 5) = 0", "told(0, 6) = 5",
            "told(1, 6) = 3");
        doc.says("BAD.", "vessel(5) = 0", "fill(0, 6) = -2 !", "fill(0, -1) = -2 !", "fill(1, 0) = -2 !",
            "fill(-1, 0) = -2 !");
        doc.says("## Promise 7: told `int told(int of, int what)`: Of a DRIP: 0 KIND, 1 NUMBER, 2 RATE, 3 PLACE; of a VESSEL: 4 "
            + "SIZE, 5 where it stands (NONE), 6 WATER.", "drip(4, 36, 5) = 0", "vessel(77) = 0", "put(0, 2) = -1",
            "fill(0, 70) = 0", "told(0, 0) = 4 ?", "told(0, 1) = 3", "told(0, 2) = 6", "told(0, 3) = 5",
            "told(0, 4) = 77", "told(0, 5) = 2", "told(0, 6) = 70", "put(0, -1) = 2", "told(0, 5) = -1");
        doc.says("-100: none such.", "drip(0, 0, 0) = 0", "told(0, 4) = -100 !", "told(0, 6) = -100", "told(1, 0) = -100 !",
            "told(-1, 0) = -100", "told(0, 7) = -100", "told(0, -1) = -100", "vessel(1) = 0", "told(0, 7) = -100 !",
            "told(0, -1) = -100 !", "told(1, 4) = -100", "told(-1, 4) = -100");
        doc.says("## Promise 8: falls `int falls(int drip, int hour, int what)`: Of a DRIP in an HOUR: 0 what it FALLS, 1 "
            + "WHERE.", "drip(2, 46, 7) = 0", "drip(0, 3, 2) = 1", "rain: 4 5", "falls(0, 0, 0) = 24 ?",
            "falls(0, 0, 1) = 7 ?", "falls(0, 1, 0) = 15", "falls(0, 1, 1) = 0", "falls(1, 1, 0) = 15",
            "falls(1, 1, 1) = 2");
        doc.says("BAD.", "drip(0, 0, 0) = 0", "falls(1, 0, 0) = -2 !", "falls(-1, 0, 0) = -2 !", "falls(0, 24, 0) = -2 !",
            "falls(0, -1, 0) = -2 !", "falls(0, 0, 2) = -2 !", "falls(0, 0, -1) = -2 !");
    }

    private static void texts() {
        String all = " ".repeat(160);
        doc.says("## Promise 9: feed `int feed(int letter)`: A byte (0 .. 255) comes behind THE TAPE: how many it has.",
            "feed(0) = 1", "feed(255) = 2", "count(6) = 2", "text() = -100", "feed(102) = 1", "tape: alls 1;harms 1;wakes 1",
            "feed(59) = 24", "text() = 1");
        doc.says("BAD; FULL.", "feed(-1) = -2 !", "feed(256) = -2 !", "tape: " + all, "feed(32) = -4 !", "feed(256) = -2 !",
            "count(6) = 160");
        doc.says("## Promise 10: text `int text()`: THE TAPE, which is empty then (by a FAULT, too), is a TEXT: its number; -100 "
            + "less the place of its FAULT.", "tape: " + WHOLE, "text() = 1", "count(6) = 0", "tape: falls 1;x",
            "text() = -108", "count(6) = 0", "count(5) = 2", "text() = -100", "tape: " + WHOLE, "text() = 2", "count(7) = 0");
        String[] six = {"tape: " + WHOLE, "text() = 1", "tape: " + WHOLE, "text() = 2", "tape: " + WHOLE, "text() = 3",
            "tape: " + WHOLE, "text() = 4", "tape: " + WHOLE, "text() = 5"};
        doc.says("FULL (ahead of all): no TEXT more has room (THE TAPE stays).",
            joined(six, "text() = -4 !", "tape: ?", "text() = -4 !", "count(6) = 1", "count(5) = 6"));
        doc.says("## Promise 11: force `int force(int text)`: A TEXT is THE RULE: which was.", "drip(0, 0, 0) = 0",
            "tape: falls 7;harms 1;wakes 1;", "text() = 1", "falls(0, 0, 0) = 0", "force(1) = 0", "falls(0, 0, 0) = 7",
            "count(7) = 1", "force(1) = 1", "force(0) = 1", "falls(0, 0, 0) = 0");
        doc.says("BAD.", "force(1) = -2 !", "force(-1) = -2 !", "tape: " + WHOLE, "text() = 1", "force(2) = -2 !");
    }

    private static void days() {
        String[] one = {"drip(0, 4, 2) = 0", "vessel(6) = 0", "put(0, 2) = -1", "rain: 1 0 1 1", "set(1, 0, 2) = 0"};
        doc.says("## Promise 12: day `int day(int what)`: THE DAY: HARM (what 0), WAKES (1), COST (2), OVER (3), FIRST (4; "
            + "NONE), FALLEN (5).", joined(one, "day(0) = 4 ?", "day(1) = 5 ?", "day(2) = 9 ?", "day(3) = 2 ?",
            "day(4) = 3 ?", "day(5) = 12 ?", "rain: 1 0 0 0", "day(4) = -1 ?"));
        doc.says("BAD.", "day(6) = -2 !", "day(-1) = -2 !");
        doc.says("## Promise 13: water `int water(int of, int hour, int what)`: WATER of a VESSEL behind an HOUR of THE DAY (what "
            + "0), OVER on a PLACE in it (1; of: which).", joined(one, "water(0, 0, 0) = 4 ?", "water(0, 1, 0) = 0",
            "water(0, 2, 0) = 4", "water(0, 3, 0) = 6", "water(0, 23, 0) = 6", "water(2, 3, 1) = 2 ?", "water(2, 2, 1) = 0",
            "water(2, 4, 1) = 0", "water(3, 3, 1) = 0", "water(7, 0, 1) = 0"));
        doc.says("BAD.", joined(one, "water(1, 0, 0) = -2 !", "water(-1, 0, 0) = -2 !", "water(0, 24, 0) = -2 !",
            "water(0, -1, 0) = -2 !", "water(0, 0, 2) = -2 !", "water(0, 0, -1) = -2 !", "water(8, 0, 1) = -2 !",
            "water(-1, 0, 1) = -2 !", "water(2, 24, 1) = -2 !"));
        doc.says("## Promise 14: pass `int pass(int n)`: n HOURS (0 .. 24) truly pass, HOUR 0 first (gone 0 then): COST of these; "
            + "WATER is as behind them.", joined(one, "pass(0) = 0 ?", "pass(1) = 0", "told(0, 6) = 4", "pass(1) = 4",
            "told(0, 6) = 6", "pass(2) = 13", "told(0, 6) = 0", "pass(24) = 9", "told(0, 6) = 6", "count(8) = 6"));
        doc.also("rule: falls 1;harms gone;wakes gone;", "drip(0, 0, 0) = 0", "set(1, 0, 4) = 0", "pass(3) = 3",
            "pass(3) = 3", "pass(2) = 1");
        doc.says("BAD.", joined(one, "pass(25) = -2 !", "pass(-1) = -2 !"));
    }

    private static void best() {
        doc.says("## Promise 15: stand `int stand(int what)`: STAND: COST (what NONE), the PLACE of a VESSEL (what: which).",
            "drip(0, 5, 3) = 0", "rain: 1", "vessel(2) = 0", "vessel(4) = 1", "stand(-1) = 2 ?", "stand(0) = 0 ?",
            "stand(1) = 3 ?");
        doc.says("BAD.", "stand(0) = -2 !", "stand(-2) = -2 !", "vessel(1) = 0", "stand(1) = -2 !", "stand(0) = 0");
        String[] one = {"drip(0, 5, 3) = 0", "vessel(5) = 0", "put(0, 3) = -1", "rain: 1 1 0 1"};
        doc.says("## Promise 16: rise `int rise(int k, int what)`: RISE: COST (what 0), HOURS (1; bits).",
            joined(one, "rise(0, 0) = 20 ?", "rise(0, 1) = 0 ?", "rise(1, 0) = 15 ?", "rise(1, 1) = 2 ?", "rise(2, 0) = 10",
            "rise(2, 1) = 6", "rise(3, 0) = 15", "rise(3, 1) = 7"));
        doc.says("BAD.", "rise(-1, 0) = -2 !", "rise(4, 0) = -2 !", "rise(1, 2) = -2 !", "rise(1, -1) = -2 !");
        doc.says("## Promise 17: lead `int lead(int what)`: LEAD: 10 times the DRIP, and the PLACE (what 0; NONE), COST then (1; "
            + "as now, if there is none).", "drip(0, 1, 0) = 0", "drip(0, 2, 1) = 1", "drip(0, 9, 4) = 2", "rain: 1",
            "lead(0) = -1 ?", "lead(1) = 24 ?", "vessel(9) = 0", "put(0, 7) = -1", "lead(0) = 27 ?", "lead(1) = 6 ?");
        doc.says("BAD.", "lead(2) = -2 !", "lead(-1) = -2 !");
        doc.says("## Promise 18: gone `int gone()`: GONE.", joined(one, "gone() = 1 ?", "set(1, 0, 2) = 0", "day(4) = 3",
            "gone() = 1 ?", "rain: 1 0 0 0", "gone() = 24 ?"));
    }

    private static void more() {
        String[] two = {"drip(0, 5, 3) = 0", "drip(0, 1, 3) = 1", "vessel(4) = 0", "put(0, 3) = -1", "rain: 1"};
        doc.says("## Promise 19: tile `int tile(int drip)`: TILE.", joined(two, "tile(0) = 4 ?", "tile(1) = 2 ?"));
        doc.says("-100000: no such DRIP.", joined(two, "tile(2) = -100000 !", "tile(-1) = -100000 !"));
        doc.says("## Promise 20: more `int more(int drip, int n)`: MORE.",
            joined(two, "more(0, 1) = 10 ?", "more(1, 9) = 18 ?"));
        doc.says("-100000: none such.", joined(two, "more(2, 1) = -100000 !", "more(-1, 1) = -100000 !",
            "more(0, 0) = -100000 !", "more(0, 10) = -100000 !"));
        doc.says("## Promise 21: sorted `int sorted(int what)`: SORTED (what 0), CARRY (1).", "vessel(10) = 0",
            "vessel(4) = 1", "put(0, 0) = -1", "put(1, 1) = -1", "fill(0, 6) = 0", "fill(1, 4) = 0", "drip(0, 5, 0) = 0",
            "drip(0, 3, 1) = 1", "rain: 1", "set(1, 0, 1) = 0", "set(2, 0, 1) = 2", "sorted(0) = -4 ?", "sorted(1) = 2 ?");
        doc.says("-100000: what.", "sorted(2) = -100000 !", "sorted(-1) = -100000 !");
    }

    private static void sight() {
        String[] two = {"drip(0, 2, 3) = 0", "drip(0, 3, 3) = 1", "rain: 1", "vessel(9) = 0", "put(0, 3) = -1"};
        doc.says("## Promise 22: seen `int seen(int sheet, int hour, int what)`: SEEN: how many (what 0), the least (1; NONE).",
            joined(two, "row: 2 1 5", "seen(2, 0, 0) = 1 ?", "seen(2, 0, 1) = 3 ?", "row: 2 1 4", "seen(2, 0, 0) = 0 ?",
            "seen(2, 0, 1) = -1 ?"));
        doc.says("BAD: SHEET, HOUR, what; -11; BAD: its size isn't how many VESSELS there are.", joined(two,
            "seen(4, 0, 0) = -2 !", "seen(-1, 0, 0) = -2 !", "seen(0, 24, 0) = -2 !", "seen(0, -1, 0) = -2 !",
            "seen(0, 0, 2) = -2 !", "seen(0, 0, -1) = -2 !", "seen(0, 0, 0) = -11 !", "row: 0 0 2 2",
            "seen(0, 0, 0) = -2 !", "row: 0 0", "sheet(0, 0, 0) = 1", "seen(0, 0, 0) = -2 !", "row: 0 0 2",
            "seen(0, 0, 0) = 1"));
        doc.also("drip(0, 0, 0) = 0", "sheet(0, 0, 0) = 1", "seen(0, 0, 0) = 2", "seen(0, 0, 1) = 0");
        doc.says("## Promise 23: strange `int strange(int sheet, int hour)`: STRANGE.", joined(two, "row: 2 1 3",
            "strange(2, 0) = 0 ?", "row: 2 1 2", "strange(2, 0) = 1 ?"));
        doc.says("BAD: SHEET, HOUR; -11; BAD: its size likewise; NONE.", joined(two, "strange(4, 0) = -2 !",
            "strange(-1, 0) = -2 !", "strange(0, 24) = -2 !", "strange(0, -1) = -2 !", "strange(0, 0) = -11 !",
            "row: 0 0 2 2", "strange(0, 0) = -2 !", "sheet(0, 0, 0) = 1", "strange(0, 0) = -2 !", "row: 0 0 5",
            "strange(0, 0) = -1 ?"));
        String first = "rule: falls rain*(hour=0);harms size;wakes 0;";
        doc.says("## Promise 24: drawn `int drawn(int seed)`: DRAWN.", first, "drip(0, 0, 0) = 0", "drawn(0) = 4 ?",
            "drawn(1) = 7 ?", "drawn(MIN) = 8 ?");
        doc.says("## Promise 25: chance `long chance(int seed, int n, int part)`: DRY, by n: part 0 above, 1 below the line, in "
            + "lowest terms.", first, "drip(0, 0, 0) = 0", "chance(0, 20, 0) = 1 ?", "chance(0, 20, 1) = 10 ?",
            "chance(0, 3, 0) = 1", "chance(0, 3, 1) = 3", "chance(0, 1, 0) = 0", "chance(0, 1, 1) = 1");
        doc.says("NO: n, part.", "chance(0, 0, 0) = -4611686018427387904 !", "chance(0, 21, 0) = -4611686018427387904 !",
            "chance(0, 1, 2) = -4611686018427387904 !", "chance(0, 1, -1) = -4611686018427387904 !",
            "chance(0, -1, 0) = -4611686018427387904");
    }

    private static void images() {
        doc.says("## Promise 26: image `int image()`: AN IMAGE is kept: how many DRIPS.", "image() = 0", "drip(0, 0, 0) = 0",
            "drip(0, 0, 0) = 1", "image() = 2", "drip(0, 0, 0) = 2", "back() = 2");
        doc.says("## Promise 27: back `int back()`: All that it keeps is as in THE IMAGE: how many DRIPS.",
            "drip(0, 23, 4) = 0", "rain: 5", "image() = 1", "set(0, 0, 9) = 5", "set(5, 0, 9) = 3", "drip(0, 0, 0) = 1",
            "tape: " + WHOLE, "text() = 1", "force(1) = 0", "row: 0 0 7", "feed(32) = 1", "back() = 1", "count(0) = 1",
            "told(0, 2) = 3", "set(0, 0, 8) = 5", "count(7) = 0", "count(5) = 2", "count(6) = 1", "cell(0, 0, 1) = 1",
            "back() = 1", "set(0, 0, 8) = 5");
        doc.says("STATE: there is none.", "drip(0, 0, 0) = 0", "back() = -3 !");
        doc.says("## Promise 28: count `int count(int what)`: How many: 0 DRIPS, 1 VESSELS, 2 UP (bits), 3 HANDS, 4 SORT, 5 TEXTS, "
            + "6 bytes of THE TAPE, 7 THE RULE, 8 WATER in all.", "drip(0, 0, 0) = 0", "vessel(50) = 0", "vessel(50) = 1",
            "fill(0, 20) = 0", "fill(1, 13) = 0", "put(1, 3) = -1", "set(1, 0, 12) = 0", "set(2, 0, 4) = 2",
            "set(3, 0, 1) = 0", "tape: " + WHOLE, "text() = 1", "tape: " + WHOLE, "text() = 2", "force(1) = 0",
            "tape: falls 9", "count(0) = 1 ?", "count(1) = 2 ?", "count(2) = 12 ?", "count(3) = 4 ?", "count(4) = 1 ?",
            "count(5) = 3 ?", "count(6) = 7 ?", "count(7) = 1 ?", "count(8) = 33 ?");
        doc.says("BAD.", "count(9) = -2 !", "count(-1) = -2 !");
    }

    private static void sheets() {
        doc.says("## Promise 29: sheet `int sheet(int sheet, int sort, int n)`: A SHEET becomes a row of n of a sort, all 0, or "
            + "missing (sort -1: n does not matter): 1.", "sheet(2, 1, 40) = 1", "cell(2, 39, 5) = 1", "cell(2, 40, 5) = -12",
            "cell(2, 0, 7) = 1", "sheet(2, 1, 2) = 1", "rain: 9", "rains(2, 1, 0, 1) = 1", "set(0, 0, 0) = 0",
            "sheet(2, -1, 41) = 1", "cell(2, 0, 0) = -11", "sheet(2, -1, -5) = 1", "sheet(2, 0, 0) = 1",
            "cell(2, 0, 0) = -12");
        doc.says("BAD: no such SHEET, sort; n above 40; -14.", "row: 0 1 5", "sheet(4, 0, 1) = -2 !", "sheet(-1, 0, 1) = -2 !",
            "sheet(0, 3, 1) = -2 !", "sheet(0, -2, 1) = -2 !", "sheet(0, 0, 41) = -2 !", "sheet(0, 0, -1) = -14 !",
            "sheet(4, 0, -1) = -2 !", "sheet(0, 3, -1) = -2 !");
        doc.says("## Promise 30: cell `int cell(int sheet, int i, int v)`: Item i of a SHEET becomes v (of bytes, shorts its lowest "
            + "8, 16 bits): 1.", "vessel(99) = 0", "vessel(99) = 1", "fill(0, 5) = 0", "fill(1, 6) = 0", "row: 0 0 0 0",
            "cell(0, 0, 5) = 1", "cell(0, 1, 262) = 1", "seen(0, 0, 0) = 1", "row: 0 1 5 262", "seen(0, 0, 0) = 0",
            "cell(0, 1, 65542) = 1", "seen(0, 0, 0) = 1", "row: 0 2 5 65542", "seen(0, 0, 0) = 0", "cell(0, 1, 6) = 1",
            "seen(0, 0, 0) = 1");
        doc.says("BAD: no such SHEET; -11; -12.", "row: 0 1 5 6", "cell(4, 0, 0) = -2 !", "cell(-1, 9, 0) = -2 !",
            "cell(1, 0, 0) = -11 !", "cell(1, -1, 0) = -11 !", "cell(0, -1, 0) = -12 !", "cell(0, 2, 0) = -12 !",
            "cell(0, MAX, 0) = -12 !");
    }

    private static void copies() {
        String[] rows = {"row: 0 2 0 1 2 3 4 5", "row: 1 2 9 9 9 9", "row: 2 1 9"};
        doc.says("## Promise 31: copy `int copy(int sheet, int i, int other, int j, int n)`: n numbers of a SHEET, from item i on, "
            + "come to another one's item j on (as they were): n.", joined(rows, "copy(0, 2, 1, 0, 4) = 4",
            "rains(1, 2, 0, 2) = 2", "set(0, 2, 0) = 3", "set(0, 4, 0) = 5", "copy(0, 0, 0, 1, 5) = 5",
            "rains(0, 2, 2, 2) = 2", "set(0, 1, 0) = 2", "set(0, 3, 0) = 4", "copy(0, 1, 0, 0, 5) = 5",
            "rains(0, 2, 0, 2) = 2", "set(0, 0, 0) = 1", "set(0, 2, 0) = 3", "copy(0, 6, 1, 4, 0) = 0 ?"));
        doc.says("BAD: no such SHEET; -11; -13: they are of unlike sorts; -12 (also with n below 0).", joined(rows,
            "copy(4, 0, 1, 0, 1) = -2 !", "copy(0, 0, 4, 0, 1) = -2 !", "copy(-1, 0, 1, 0, 1) = -2 !",
            "copy(0, 0, -1, 0, 1) = -2 !", "copy(3, 0, 4, 0, 1) = -2 !", "copy(3, 0, 1, 0, 1) = -11 !",
            "copy(0, 0, 3, 0, 1) = -11 !", "copy(0, 0, 2, 0, 1) = -13 !", "copy(0, 9, 2, 9, -1) = -13 !",
            "copy(0, 3, 1, 0, 4) = -12 !", "copy(0, 0, 1, 1, 4) = -12 !", "copy(0, -1, 1, 0, 1) = -12 !",
            "copy(0, 0, 1, -1, 1) = -12 !", "copy(0, 0, 1, 0, -1) = -12 !", "copy(0, 7, 1, 0, 0) = -12 !"));
        doc.says("## Promise 32: rains `int rains(int sheet, int sort, int from, int n)`: RAIN of HOURS by a SHEET that is taken for "
            + "one of a sort: from one on, two by two (an HOUR, its RAIN), n of them (0 .. 20): how many became so (others "
            + "are left out).", "row: 0 1 7 23 9 24 1 -1 1 5 10 5 -1 6 3", "rains(0, 1, 1, 6) = 2", "set(0, 23, 0) = 9",
            "set(0, 6, 0) = 3", "set(0, 5, 0) = 0", "set(0, 7, 0) = 0", "rains(0, 1, 1, 1) = 1", "set(0, 23, 0) = 9",
            "set(0, 6, 0) = 0", "rains(0, 1, 11, 1) = 1", "set(0, 6, 0) = 3", "rains(0, 1, 0, 0) = 0 ?");
        doc.also("sheet(0, 0, 40) = 1", "rain: 5", "rains(0, 0, 0, 20) = 20", "set(0, 0, 0) = 0");
        doc.says("BAD: no such SHEET, sort, n; -13; -11; -12: what stood ahead became so.", "row: 0 1 1 5 2 6 3",
            "rains(4, 1, 0, 1) = -2 !", "rains(-1, 1, 0, 1) = -2 !", "rains(0, -1, 0, 1) = -2 !", "rains(0, 3, 0, 1) = -2 !",
            "rains(0, 1, 0, -1) = -2 !", "rains(0, 1, 0, 21) = -2 !", "rains(0, 0, 9, 1) = -13 !", "rains(0, 2, 0, 0) = -13 !",
            "rains(1, 1, 0, 1) = -11 !", "rains(1, 0, -1, 0) = -11 !", "rains(0, 1, 5, 1) = -12 !", "rains(0, 1, -1, 1) = -12 !",
            "rains(0, 1, MAX, 2) = -12 !", "rains(0, 1, MIN, 2) = -12 !", "rains(0, 1, 0, 3) = -12", "set(0, 1, 0) = 5",
            "set(0, 2, 0) = 6");
        doc.says("## Promise 33: taken `int taken(int drip, int k)`: A DRIP taken for one of KIND k (0 .. 5), or one under that one "
            + "(also by others between): its NUMBER.", "drip(3, 45, 0) = 0", "drip(4, 67, 0) = 1", "taken(0, 3) = 4 ?",
            "taken(0, 1) = 4", "taken(0, 0) = 4", "taken(1, 4) = 6", "taken(1, 2) = 6", "taken(1, 0) = 6");
        doc.says("BAD: k; -11: no such DRIP; -13.", "drip(3, 45, 0) = 0", "taken(0, 6) = -2 !", "taken(0, -1) = -2 !",
            "taken(1, 6) = -2 !", "taken(1, 0) = -11 !", "taken(-1, 0) = -11 !", "taken(0, 5) = -13 !", "taken(0, 2) = -13 !",
            "taken(0, 4) = -13 !");
    }
}
