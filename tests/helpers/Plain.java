import java.util.ArrayList;
import java.util.Arrays;
import java.util.List;
import java.util.Set;
import java.util.TreeSet;

/** A second, plain reading of the document, to hold UnderTheRoof against: no haste, nothing kept between calls. */
final class Plain {
    static final int NONE = -1, BAD = -2, STATE = -3, FULL = -4;
    static final long NO = -4611686018427387904L;

    static class Drip implements Cloneable {
        int number;
        int rate;
        int place;

        int kind() {
            return 0;
        }

        int falls(int v, int hour, int rain) {
            return v;
        }

        int where(int rain) {
            return place;
        }

        Drip copy() {
            try {
                return (Drip) clone();
            } catch (CloneNotSupportedException e) {
                throw new IllegalStateException(e);
            }
        }
    }

    static class Steady extends Drip {
        @Override int kind() {
            return 1;
        }

        @Override int falls(int v, int hour, int rain) {
            return super.falls(v, hour, rain) + 1;
        }
    }

    static class Wandering extends Drip {
        @Override int kind() {
            return 2;
        }

        @Override int falls(int v, int hour, int rain) {
            int all = super.falls(v, hour, rain);
            return rain > number ? all / 2 : all;
        }

        @Override int where(int rain) {
            return rain > number ? (place + 1) % 8 : super.where(rain);
        }
    }

    static final class Hidden extends Steady {
        @Override int kind() {
            return 3;
        }

        @Override int falls(int v, int hour, int rain) {
            return hour < number ? 0 : 2 * super.falls(v, hour, rain);
        }
    }

    static final class Led extends Wandering {
        @Override int kind() {
            return 4;
        }

        @Override int falls(int v, int hour, int rain) {
            return Math.min(9, super.falls(v, hour, rain));
        }

        @Override int where(int rain) {
            return number % 8;
        }
    }

    static final class New extends Steady {
        @Override int kind() {
            return 5;
        }

        @Override int falls(int v, int hour, int rain) {
            return hour < 12 ? 0 : super.falls(v, hour, rain);
        }
    }

    static final class Vessel {
        int size;
        int stands = NONE;
        int water;

        Vessel copy() {
            Vessel v = new Vessel();
            v.size = size;
            v.stands = stands;
            v.water = water;
            return v;
        }
    }

    /** All that a day is reckoned from. */
    static final class World {
        int[] rain = new int[24];
        List<Drip> drips = new ArrayList<>();
        List<Vessel> vessels = new ArrayList<>();
        int up = 0;
        int hands = 2;
        int sort = 0;
        int rule = 0;
        Drip led = null;
        int ledTo = NONE;

        World copy() {
            World w = new World();
            w.rain = rain.clone();
            for (Drip drip : drips) {
                w.drips.add(drip.copy());
            }
            for (Vessel vessel : vessels) {
                w.vessels.add(vessel.copy());
            }
            w.up = up;
            w.hands = hands;
            w.sort = sort;
            w.rule = rule;
            return w;
        }
    }

    static final class Outcome {
        int harm = 0;
        int wakes = 0;
        int over = 0;
        int first = NONE;
        int fallen = 0;
        int[] lastOver = new int[8];

        int cost() {
            return harm + wakes;
        }
    }

    private World world = new World();
    private World image = null;
    private final StringBuilder tape = new StringBuilder();
    private final List<PlainText> texts = new ArrayList<>();
    private final int[][] sheets = new int[4][];
    private final int[] sorts = new int[4];

    Plain() {
        texts.add(new PlainText(Roof.FIRST_TEXT));
    }

    private int whereOf(World w, Drip drip, int hour) {
        return drip == w.led ? w.ledTo : drip.where(w.rain[hour]);
    }

    private int fallsOf(World w, Drip drip, int hour) {
        int rain = w.rain[hour];
        int v = texts.get(w.rule).tells(0, 99, rain, hour, whereOf(w, drip, hour), drip.rate, 0, 0);
        return drip.falls(v, hour, rain);
    }

    /** Reckons hours on the world itself: its water is as behind them. */
    private Outcome reckon(World w, int hours) {
        PlainText text = texts.get(w.rule);
        Outcome out = new Outcome();
        int rose = 0;
        for (int hour = 0; hour < hours; hour++) {
            int rain = w.rain[hour];
            if ((w.up & (1 << hour)) != 0) {
                out.wakes += text.tells(2, 999, rain, hour, 0, 0, 0, hour - rose);
                empty(w);
                rose = hour;
            }
            Arrays.fill(out.lastOver, 0);
            for (int place = 0; place < 8; place++) {
                int rest = 0;
                for (Drip drip : w.drips) {
                    if (whereOf(w, drip, hour) == place) {
                        rest += fallsOf(w, drip, hour);
                    }
                }
                out.fallen += rest;
                for (Vessel vessel : w.vessels) {
                    if (vessel.stands == place) {
                        int all = vessel.water + rest;
                        vessel.water = Math.min(vessel.size, all);
                        rest = all - vessel.water;
                    }
                }
                if (rest > 0) {
                    out.lastOver[place] = rest;
                    out.over += rest;
                    out.harm += text.tells(1, 999, rain, hour, place, 0, rest, hour - rose);
                    if (out.first == NONE) {
                        out.first = hour;
                    }
                }
            }
        }
        return out;
    }

    private static void empty(World w) {
        List<Vessel> those = new ArrayList<>();
        for (Vessel vessel : w.vessels) {
            if (vessel.stands != NONE && vessel.water > 0) {
                those.add(vessel);
            }
        }
        // The sort is stable: of like ones the first stays first.
        those.sort((a, b) -> w.sort == 0 ? b.water - a.water : (a.size - a.water) - (b.size - b.water));
        for (int i = 0; i < those.size() && i < w.hands; i++) {
            those.get(i).water = 0;
        }
    }

    private Outcome dayOf(World w) {
        return reckon(w.copy(), 24);
    }

    private int cost(World w) {
        return dayOf(w).cost();
    }

    int set(int what, int of, int v) {
        boolean drip = of >= 0 && of < world.drips.size();
        int was;
        if (what == 0 && of >= 0 && of < 24 && v >= 0 && v <= 9) {
            was = world.rain[of];
            world.rain[of] = v;
        } else if (what == 1 && v >= 0 && v < 1 << 24) {
            was = world.up;
            world.up = v;
        } else if (what == 2 && v >= 1 && v <= 5) {
            was = world.hands;
            world.hands = v;
        } else if (what == 3 && (v == 0 || v == 1)) {
            was = world.sort;
            world.sort = v;
        } else if (what == 4 && drip && v >= 0 && v <= 9) {
            was = world.drips.get(of).number;
            world.drips.get(of).number = v;
        } else if (what == 5 && drip && v >= 0 && v <= 9) {
            was = world.drips.get(of).rate;
            world.drips.get(of).rate = v;
        } else if (what == 6 && drip && v >= 0 && v <= 7) {
            was = world.drips.get(of).place;
            world.drips.get(of).place = v;
        } else {
            was = BAD;
        }
        return was;
    }

    int drip(int kind, int what, int place) {
        if (kind < 0 || kind > 5 || what < 0 || what > 99 || place < 0 || place > 7) {
            return BAD;
        }
        if (world.drips.size() == 6) {
            return FULL;
        }
        Drip[] kinds = {new Drip(), new Steady(), new Wandering(), new Hidden(), new Led(), new New()};
        Drip drip = kinds[kind];
        drip.number = what / 10;
        drip.rate = what % 10;
        drip.place = place;
        world.drips.add(drip);
        return world.drips.size() - 1;
    }

    int vessel(int size) {
        if (size < 1 || size > 99) {
            return BAD;
        }
        if (world.vessels.size() == 5) {
            return FULL;
        }
        Vessel vessel = new Vessel();
        vessel.size = size;
        world.vessels.add(vessel);
        return world.vessels.size() - 1;
    }

    private Vessel vesselAt(int i) {
        return i >= 0 && i < world.vessels.size() ? world.vessels.get(i) : null;
    }

    private Drip dripAt(int i) {
        return i >= 0 && i < world.drips.size() ? world.drips.get(i) : null;
    }

    int put(int vessel, int place) {
        Vessel it = vesselAt(vessel);
        if (it == null || place < -1 || place > 7) {
            return BAD;
        }
        for (Vessel other : world.vessels) {
            if (other != it && place >= 0 && other.stands == place) {
                return STATE;
            }
        }
        int was = it.stands;
        it.stands = place;
        return was;
    }

    int fill(int vessel, int v) {
        Vessel it = vesselAt(vessel);
        if (it == null || v < 0 || v > it.size) {
            return BAD;
        }
        int was = it.water;
        it.water = v;
        return was;
    }

    int told(int of, int what) {
        Drip drip = dripAt(of);
        Vessel vessel = vesselAt(of);
        if (what >= 0 && what <= 3 && drip != null) {
            return new int[] {drip.kind(), drip.number, drip.rate, drip.place}[what];
        }
        if (what >= 4 && what <= 6 && vessel != null) {
            return new int[] {vessel.size, vessel.stands, vessel.water}[what - 4];
        }
        return -100;
    }

    int falls(int drip, int hour, int what) {
        Drip it = dripAt(drip);
        if (it == null || hour < 0 || hour > 23 || what < 0 || what > 1) {
            return BAD;
        }
        return what == 0 ? fallsOf(world, it, hour) : whereOf(world, it, hour);
    }

    int feed(int letter) {
        if (letter < 0 || letter > 255) {
            return BAD;
        }
        if (tape.length() == 160) {
            return FULL;
        }
        tape.append((char) letter);
        return tape.length();
    }

    int text() {
        if (texts.size() == 6) {
            return FULL;
        }
        PlainText text = new PlainText(tape.toString());
        tape.setLength(0);
        if (text.fault >= 0) {
            return -100 - text.fault;
        }
        texts.add(text);
        return texts.size() - 1;
    }

    int force(int text) {
        if (text < 0 || text >= texts.size()) {
            return BAD;
        }
        int was = world.rule;
        world.rule = text;
        return was;
    }

    int day(int what) {
        if (what < 0 || what > 5) {
            return BAD;
        }
        Outcome out = dayOf(world);
        return new int[] {out.harm, out.wakes, out.cost(), out.over, out.first, out.fallen}[what];
    }

    int water(int of, int hour, int what) {
        boolean there = what == 0 ? vesselAt(of) != null : of >= 0 && of <= 7;
        if (what < 0 || what > 1 || hour < 0 || hour > 23 || !there) {
            return BAD;
        }
        World w = world.copy();
        Outcome out = reckon(w, hour + 1);
        return what == 0 ? w.vessels.get(of).water : out.lastOver[of];
    }

    int pass(int n) {
        return n < 0 || n > 24 ? BAD : reckon(world, n).cost();
    }

    int stand(int what) {
        if (what < -1 || what >= world.vessels.size()) {
            return BAD;
        }
        World w = world.copy();
        int[] best = new int[1 + w.vessels.size()];
        best[0] = Integer.MAX_VALUE;
        ways(w, 0, best);
        return best[what + 1];
    }

    private void ways(World w, int vessel, int[] best) {
        if (vessel == w.vessels.size()) {
            int cost = cost(w);
            if (cost < best[0]) {
                best[0] = cost;
                for (int v = 0; v < vessel; v++) {
                    best[v + 1] = w.vessels.get(v).stands;
                }
            }
            return;
        }
        for (int place = 0; place < 8; place++) {
            boolean free = true;
            for (int v = 0; v < vessel; v++) {
                free &= w.vessels.get(v).stands != place;
            }
            if (free) {
                w.vessels.get(vessel).stands = place;
                ways(w, vessel + 1, best);
            }
        }
    }

    int rise(int k, int what) {
        if (k < 0 || k > 3 || what < 0 || what > 1) {
            return BAD;
        }
        World w = world.copy();
        int least = Integer.MAX_VALUE;
        int bits = 0;
        for (int set : setsOf(k)) {
            w.up = set;
            int cost = cost(w);
            if (cost < least) {
                least = cost;
                bits = set;
            }
        }
        return what == 0 ? least : bits;
    }

    /** All sets of k hours, the least as bits ahead. */
    private static Set<Integer> setsOf(int k) {
        Set<Integer> sets = new TreeSet<>(Set.of(0));
        for (int i = 0; i < k; i++) {
            Set<Integer> more = new TreeSet<>();
            for (int set : sets) {
                for (int hour = 0; hour < 24; hour++) {
                    if ((set & (1 << hour)) == 0) {
                        more.add(set | 1 << hour);
                    }
                }
            }
            sets = more;
        }
        return sets;
    }

    int lead(int what) {
        if (what < 0 || what > 1) {
            return BAD;
        }
        int least = cost(world);
        int which = NONE;
        for (int drip = 0; drip < world.drips.size(); drip++) {
            for (int place = 0; place < 8; place++) {
                World w = world.copy();
                w.led = w.drips.get(drip);
                w.ledTo = place;
                int cost = reckon(w, 24).cost();
                if (cost < least) {
                    least = cost;
                    which = 10 * drip + place;
                }
            }
        }
        return what == 0 ? which : least;
    }

    int gone() {
        World w = world.copy();
        w.up = 0;
        int first = dayOf(w).first;
        return first == NONE ? 24 : first;
    }

    int tile(int drip) {
        if (dripAt(drip) == null) {
            return -100000;
        }
        World w = world.copy();
        w.drips.remove(drip);
        return cost(world) - cost(w);
    }

    int more(int drip, int n) {
        if (dripAt(drip) == null || n < 1 || n > 9) {
            return -100000;
        }
        World w = world.copy();
        for (int i = 0; i < n; i++) {
            w.drips.add(w.drips.get(drip).copy());
        }
        return cost(w) - cost(world);
    }

    int sorted(int what) {
        World w = world.copy();
        if (what == 0) {
            w.sort = 1 - w.sort;
            return cost(w) - cost(world);
        }
        if (what != 1) {
            return -100000;
        }
        w.hands = 5;
        int best = cost(w);
        for (w.hands = 1; cost(w) > best; w.hands++) {
            continue;
        }
        return w.hands;
    }

    private int refusal(int sheet, int hour) {
        if (sheet < 0 || sheet > 3 || hour < 0 || hour > 23) {
            return BAD;
        }
        return sheets[sheet] == null ? -11 : sheets[sheet].length != world.vessels.size() ? BAD : 0;
    }

    private boolean wouldBeSo(int sheet, int hour, int set) {
        World w = world.copy();
        for (int drip = w.drips.size() - 1; drip >= 0; drip--) {
            if ((set & (1 << drip)) == 0) {
                w.drips.remove(drip);
            }
        }
        reckon(w, hour + 1);
        int[] water = new int[w.vessels.size()];
        for (int v = 0; v < water.length; v++) {
            water[v] = w.vessels.get(v).water;
        }
        return Arrays.equals(water, sheets[sheet]);
    }

    int seen(int sheet, int hour, int what) {
        if (what < 0 || what > 1) {
            return BAD;
        }
        if (refusal(sheet, hour) != 0) {
            return refusal(sheet, hour);
        }
        List<Integer> sets = new ArrayList<>();
        for (int set = 0; set < 1 << world.drips.size(); set++) {
            if (wouldBeSo(sheet, hour, set)) {
                sets.add(set);
            }
        }
        return what == 0 ? sets.size() : sets.isEmpty() ? NONE : sets.get(0);
    }

    int strange(int sheet, int hour) {
        if (refusal(sheet, hour) != 0) {
            return refusal(sheet, hour);
        }
        for (int drip = 0; drip < world.drips.size(); drip++) {
            if (wouldBeSo(sheet, hour, 63 - (1 << drip))) {
                return drip;
            }
        }
        return NONE;
    }

    private Outcome drawnDay(int seed) {
        World w = world.copy();
        int z = seed;
        for (int hour = 0; hour < 24; hour++) {
            z = z * 1103515245 + 12345;
            w.rain[hour] = (z >>> 9) % 10;
        }
        return dayOf(w);
    }

    int drawn(int seed) {
        return drawnDay(seed).cost();
    }

    long chance(int seed, int n, int part) {
        if (n < 1 || n > 20 || part < 0 || part > 1) {
            return NO;
        }
        int dry = 0;
        for (int i = 0; i < n; i++) {
            dry += drawnDay(seed + i).first == NONE ? 1 : 0;
        }
        int gcd = java.math.BigInteger.valueOf(dry).gcd(java.math.BigInteger.valueOf(n)).intValue();
        return (part == 0 ? dry : n) / gcd;
    }

    int image() {
        image = world.copy();
        return world.drips.size();
    }

    int back() {
        if (image == null) {
            return STATE;
        }
        world = image.copy();
        return world.drips.size();
    }

    int count(int what) {
        int water = 0;
        for (Vessel vessel : world.vessels) {
            water += vessel.water;
        }
        int[] all = {world.drips.size(), world.vessels.size(), world.up, world.hands, world.sort,
            texts.size(), tape.length(), world.rule, water};
        return what < 0 || what > 8 ? BAD : all[what];
    }

    int sheet(int sheet, int sort, int n) {
        if (sheet < 0 || sheet > 3 || sort < -1 || sort > 2) {
            return BAD;
        }
        if (sort == -1) {
            sheets[sheet] = null;
            return 1;
        }
        if (n > 40) {
            return BAD;
        }
        if (n < 0) {
            return -14;
        }
        sheets[sheet] = new int[n];
        sorts[sheet] = sort;
        return 1;
    }

    int cell(int sheet, int i, int v) {
        if (sheet < 0 || sheet > 3) {
            return BAD;
        }
        if (sheets[sheet] == null) {
            return -11;
        }
        if (i < 0 || i >= sheets[sheet].length) {
            return -12;
        }
        int bits = new int[] {24, 16, 0}[sorts[sheet]];
        sheets[sheet][i] = v << bits >> bits;
        return 1;
    }

    int copy(int sheet, int i, int other, int j, int n) {
        if (sheet < 0 || sheet > 3 || other < 0 || other > 3) {
            return BAD;
        }
        if (sheets[sheet] == null || sheets[other] == null) {
            return -11;
        }
        if (sorts[sheet] != sorts[other]) {
            return -13;
        }
        if (i < 0 || j < 0 || n < 0 || (long) i + n > sheets[sheet].length || (long) j + n > sheets[other].length) {
            return -12;
        }
        int[] were = sheets[sheet].clone();
        for (int k = 0; k < n; k++) {
            sheets[other][j + k] = were[i + k];
        }
        return n;
    }

    int rains(int sheet, int sort, int from, int n) {
        if (sheet < 0 || sheet > 3 || sort < 0 || sort > 2 || n < 0 || n > 20) {
            return BAD;
        }
        if (sheets[sheet] == null) {
            return -11;
        }
        if (sorts[sheet] != sort) {
            return -13;
        }
        int became = 0;
        for (long at = from; at < (long) from + 2 * n; at += 2) {
            if (at < 0 || at + 1 >= sheets[sheet].length) {
                return -12;
            }
            int hour = sheets[sheet][(int) at];
            int rain = sheets[sheet][(int) at + 1];
            if (hour >= 0 && hour < 24 && rain >= 0 && rain <= 9) {
                world.rain[hour] = rain;
                became++;
            }
        }
        return became;
    }

    int taken(int drip, int k) {
        if (k < 0 || k > 5) {
            return BAD;
        }
        Drip it = dripAt(drip);
        if (it == null) {
            return -11;
        }
        Class<?>[] kinds = {Drip.class, Steady.class, Wandering.class, Hidden.class, Led.class, New.class};
        return kinds[k].isInstance(it) ? it.number : -13;
    }
}
