/**
 * Buckets under a roof, as ../shared/DOC.md promises it.
 *
 * Every row that any call needs is made together with the object: all calls of a run live in one
 * room, so a call itself makes nothing.
 */
public final class UnderTheRoof {
    public static final int NONE = -1, BAD = -2, STATE = -3, FULL = -4;
    public static final long NO = -4611686018427387904L;

    private static final int NOTHING = -11, OUTSIDE = -12, UNLIKE = -13, BELOW = -14;
    private static final int NO_SUCH = -100, NO_NUMBER = -100000, FINE = 0;

    private static final int HOURS = 24, PLACES = 8, DRIPS = 6, VESSELS = 5, MOST_HANDS = 5;
    private static final int ALL_HOURS = (1 << HOURS) - 1;
    private static final int MOST_RAIN = 9, MOST_NUMBER = 9, MOST_RATE = 9, MOST_SIZE = 99;
    private static final int MOST_MORE = 9, MOST_RISES = 3, MOST_SEEDS = 20;
    private static final int ANY_COST = 2147483647;
    private static final long NONE_YET = (long) ANY_COST << 32;

    private static final int DRIP = 0, STEADY = 1, WANDERING = 2, HIDDEN = 3, LED = 4, NEW = 5;
    private static final int[] UNDER = {NONE, DRIP, DRIP, STEADY, WANDERING, STEADY};
    private static final int MOST_LED = 9, FIRST_NEW_HOUR = 12;

    private static final int TEXTS = 6, TAPE = 160, PARTS = 3, MOST_OPEN = 5, MOST_DIGITS = 4;
    private static final int PART_FALLS = 0, PART_HARMS = 1, PART_WAKES = 2;
    private static final int MOST_FALLS = 99, MOST_HARMS = 999, MOST_WAKES = 999;
    private static final String FIRST_TEXT = "falls rate * rain ; harms size * 2 ; wakes 5 ;";

    private static final int SHEETS = 4, INTS = 2, ITEMS = 40, MOST_PAIRS = 20;

    private final House house = new House();
    private final House kept = new House();
    private boolean isKept;
    private final Reader reader = new Reader();
    private final Text[] texts = new Text[TEXTS];
    private int textsThere;
    private final Rule rule;
    private final Day today;
    private final Sheet[] sheets = new Sheet[SHEETS];

    public UnderTheRoof() {
        for (int i = 0; i < TEXTS; i++) {
            texts[i] = new Text();
        }
        for (int i = 0; i < SHEETS; i++) {
            sheets[i] = new Sheet();
        }
        for (int i = 0; i < FIRST_TEXT.length(); i++) {
            reader.take(FIRST_TEXT.charAt(i));
        }
        reader.read(texts[0]);
        textsThere = 1;
        rule = new Rule(texts[0]);
        today = new Day(house, rule);
    }

    // ---- rain, drips, vessels

    public int set(int what, int of, int v) {
        switch (what) {
            case 0:
                return isHour(of) && isIn(v, 0, MOST_RAIN) ? swapped(house.rain, of, v) : BAD;
            case 1:
            case 2:
            case 3:
                return changed(what, v);
            case 4:
                return isDrip(of) && isIn(v, 0, MOST_NUMBER) ? swapped(house.number, of, v) : BAD;
            case 5:
                return isDrip(of) && isIn(v, 0, MOST_RATE) ? swapped(house.rate, of, v) : BAD;
            case 6:
                return isDrip(of) && isPlace(v) ? swapped(house.place, of, v) : BAD;
            default:
                return BAD;
        }
    }

    public int drip(int kind, int what, int place) {
        if (!isKind(kind) || !isIn(what, 0, 10 * MOST_NUMBER + MOST_RATE) || !isPlace(place)) {
            return BAD;
        }
        int drip = house.drips;
        if (!isIn(drip, 0, DRIPS - 1)) {
            return FULL;
        }
        house.kind[drip] = kind;
        house.number[drip] = what / 10;
        house.rate[drip] = what % 10;
        house.place[drip] = place;
        house.drips = drip + 1;
        return drip;
    }

    public int vessel(int size) {
        if (!isIn(size, 1, MOST_SIZE)) {
            return BAD;
        }
        int vessel = house.vessels;
        if (!isIn(vessel, 0, VESSELS - 1)) {
            return FULL;
        }
        house.size[vessel] = size;
        house.stands[vessel] = NONE;
        house.water[vessel] = 0;
        house.vessels = vessel + 1;
        return vessel;
    }

    public int put(int vessel, int place) {
        if (!isVessel(vessel) || !(place == NONE || isPlace(place))) {
            return BAD;
        }
        for (int v = 0; v < house.vessels && v < VESSELS; v++) {
            if (v != vessel && place != NONE && house.stands[v] == place) {
                return STATE;
            }
        }
        return swapped(house.stands, vessel, place);
    }

    public int fill(int vessel, int v) {
        if (!isVessel(vessel) || !isIn(v, 0, house.size[vessel])) {
            return BAD;
        }
        return swapped(house.water, vessel, v);
    }

    public int told(int of, int what) {
        if (isIn(what, 0, 3) ? !isDrip(of) : !isVessel(of)) {
            return NO_SUCH;
        }
        switch (what) {
            case 0:
                return house.kind[of];
            case 1:
                return house.number[of];
            case 2:
                return house.rate[of];
            case 3:
                return house.place[of];
            case 4:
                return house.size[of];
            case 5:
                return house.stands[of];
            case 6:
                return house.water[of];
            default:
                return NO_SUCH;
        }
    }

    public int falls(int drip, int hour, int what) {
        if (!isDrip(drip) || !isHour(hour) || !isIn(what, 0, 1)) {
            return BAD;
        }
        Showers showers = dawn().showers;
        int where = showers.where(drip, hour);
        return what == 1 ? where : showers.amount(drip, hour, where);
    }

    // ---- texts

    public int feed(int letter) {
        if (!isIn(letter, 0, 255)) {
            return BAD;
        }
        return reader.take(letter) ? reader.size : FULL;
    }

    public int text() {
        if (!isIn(textsThere, 0, TEXTS - 1)) {
            return FULL;
        }
        int fault = reader.read(texts[textsThere]);
        if (fault != NONE) {
            return NO_SUCH - fault;
        }
        textsThere++;
        return textsThere - 1;
    }

    public int force(int text) {
        if (!isIn(text, 0, textsThere - 1)) {
            return BAD;
        }
        int was = house.rule;
        house.rule = text;
        return was;
    }

    // ---- a day

    public int day(int what) {
        if (!isIn(what, 0, 5)) {
            return BAD;
        }
        int cost = dawn().costInAll();
        switch (what) {
            case 0:
                return today.harm;
            case 1:
                return today.wakes;
            case 2:
                return cost;
            case 3:
                return today.over;
            case 4:
                return today.first;
            default:
                return today.fallen;
        }
    }

    public int water(int of, int hour, int what) {
        if (!isIn(what, 0, 1) || !isHour(hour) || !(what == 0 ? isVessel(of) : isPlace(of))) {
            return BAD;
        }
        dawn().lay();
        today.run(hour + 1, ANY_COST);
        return what == 0 ? today.water[of] : today.spilt[of];
    }

    public int pass(int n) {
        if (!isIn(n, 0, HOURS)) {
            return BAD;
        }
        dawn().lay();
        today.run(n, ANY_COST);
        for (int v = 0; v < VESSELS; v++) {
            house.water[v] = today.water[v];
        }
        return today.cost();
    }

    // ---- where, when

    public int stand(int what) {
        if (what != NONE && !isVessel(what)) {
            return BAD;
        }
        dawn().lay();
        long best = NONE_YET;
        for (int way = 0; way < 1 << 3 * house.vessels; way++) {
            if (today.isStoodBy(way)) {
                best = today.better(best, way);
            }
        }
        return what == NONE ? costOf(best) : today.placeBy(choiceOf(best), what);
    }

    public int rise(int k, int what) {
        if (!isIn(k, 0, MOST_RISES) || !isIn(what, 0, 1)) {
            return BAD;
        }
        dawn().lay();
        long best = bestHours(today, k, HOURS, 0, NONE_YET);
        return what == 0 ? costOf(best) : choiceOf(best);
    }

    public int lead(int what) {
        if (!isIn(what, 0, 1)) {
            return BAD;
        }
        dawn().lay();
        long best = today.better(NONE_YET, NONE);
        for (int drip = 0; drip < house.drips; drip++) {
            for (int place = 0; place < PLACES; place++) {
                today.showers.steer(drip, place);
                today.lay();
                best = today.better(best, 10 * drip + place);
            }
        }
        return what == 0 ? choiceOf(best) : costOf(best);
    }

    public int gone() {
        dawn().up = 0;
        today.costInAll();
        return today.first == NONE ? HOURS : today.first;
    }

    // ---- tiles, more drips, hands

    public int tile(int drip) {
        if (!isDrip(drip)) {
            return NO_NUMBER;
        }
        int now = dawn().costInAll();
        today.showers.repeat(drip, 0);
        return now - today.costInAll();
    }

    public int more(int drip, int n) {
        if (!isDrip(drip) || !isIn(n, 1, MOST_MORE)) {
            return NO_NUMBER;
        }
        int now = dawn().costInAll();
        today.showers.repeat(drip, 1 + n);
        return today.costInAll() - now;
    }

    public int sorted(int what) {
        if (!isIn(what, 0, 1)) {
            return NO_NUMBER;
        }
        dawn();
        if (what == 0) {
            int now = today.costInAll();
            today.sort = 1 - house.sort;
            return today.costInAll() - now;
        }
        today.hands = MOST_HANDS;
        int best = today.costInAll();
        for (int hands = 1; hands < MOST_HANDS; hands++) {
            today.hands = hands;
            if (today.costInAll() <= best) {
                return hands;
            }
        }
        return MOST_HANDS;
    }

    // ---- what was seen

    public int seen(int sheet, int hour, int what) {
        int refusal = isIn(what, 0, 1) ? refusalOfSight(sheet, hour) : BAD;
        if (refusal != FINE) {
            return refusal;
        }
        int many = 0;
        int least = NONE;
        for (int set = 0; set < 1 << house.drips; set++) {
            if (isAsSeen(sheet, hour, set)) {
                least = many == 0 ? set : least;
                many++;
            }
        }
        return what == 0 ? many : least;
    }

    public int strange(int sheet, int hour) {
        int refusal = refusalOfSight(sheet, hour);
        if (refusal != FINE) {
            return refusal;
        }
        int all = (1 << house.drips) - 1;
        for (int drip = 0; drip < house.drips; drip++) {
            if (isAsSeen(sheet, hour, all ^ 1 << drip)) {
                return drip;
            }
        }
        return NONE;
    }

    public int drawn(int seed) {
        dawn().showers.draw(seed);
        return today.costInAll();
    }

    public long chance(int seed, int n, int part) {
        if (!isIn(n, 1, MOST_SEEDS) || !isIn(part, 0, 1)) {
            return NO;
        }
        int dry = 0;
        for (int i = 0; i < n; i++) {
            dawn().showers.draw(seed + i);
            today.costInAll();
            dry += today.over == 0 ? 1 : 0;
        }
        int shared = sharedDivisor(dry, n);
        return (part == 0 ? dry : n) / (shared > 0 ? shared : 1);
    }

    public int image() {
        kept.become(house);
        isKept = true;
        return house.drips;
    }

    public int back() {
        if (!isKept) {
            return STATE;
        }
        house.become(kept);
        return house.drips;
    }

    public int count(int what) {
        switch (what) {
            case 0:
                return house.drips;
            case 1:
                return house.vessels;
            case 2:
                return house.up;
            case 3:
                return house.hands;
            case 4:
                return house.sort;
            case 5:
                return textsThere;
            case 6:
                return reader.size;
            case 7:
                return house.rule;
            case 8:
                return waterInAll();
            default:
                return BAD;
        }
    }

    // ---- the host

    public int sheet(int sheet, int sort, int n) {
        if (!isSheet(sheet) || !isIn(sort, NONE, INTS) || sort != NONE && n > ITEMS) {
            return BAD;
        }
        if (sort != NONE && n < 0) {
            return BELOW;
        }
        sheets[sheet].become(sort, sort == NONE ? 0 : n);
        return 1;
    }

    public int cell(int sheet, int i, int v) {
        if (!isSheet(sheet)) {
            return BAD;
        }
        if (sheets[sheet].sort == NONE) {
            return NOTHING;
        }
        return sheets[sheet].take(i, v) ? 1 : OUTSIDE;
    }

    public int copy(int sheet, int i, int other, int j, int n) {
        if (!isSheet(sheet) || !isSheet(other)) {
            return BAD;
        }
        Sheet from = sheets[sheet];
        Sheet to = sheets[other];
        if (from.sort == NONE || to.sort == NONE) {
            return NOTHING;
        }
        if (from.sort != to.sort) {
            return UNLIKE;
        }
        if (!from.hasAll(i, n) || !to.hasAll(j, n)) {
            return OUTSIDE;
        }
        System.arraycopy(from.items, i, to.items, j, n);
        return n;
    }

    public int rains(int sheet, int sort, int from, int n) {
        if (!isSheet(sheet) || !isIn(sort, 0, INTS) || !isIn(n, 0, MOST_PAIRS)) {
            return BAD;
        }
        Sheet pairs = sheets[sheet];
        if (pairs.sort == NONE) {
            return NOTHING;
        }
        return pairs.sort == sort ? rainBy(pairs, from, n) : UNLIKE;
    }

    public int taken(int drip, int k) {
        if (!isKind(k)) {
            return BAD;
        }
        if (!isDrip(drip)) {
            return NOTHING;
        }
        return isUnder(house.kind[drip], k) ? house.number[drip] : UNLIKE;
    }

    // ---- what the calls above share

    private static boolean isIn(int v, int least, int most) {
        return v >= least && v <= most;
    }

    private static boolean isHour(int hour) {
        return isIn(hour, 0, HOURS - 1);
    }

    private static boolean isPlace(int place) {
        return isIn(place, 0, PLACES - 1);
    }

    private static boolean isKind(int kind) {
        return isIn(kind, 0, UNDER.length - 1);
    }

    private static boolean isSheet(int sheet) {
        return isIn(sheet, 0, SHEETS - 1);
    }

    private boolean isDrip(int drip) {
        return isIn(drip, 0, house.drips - 1);
    }

    private boolean isVessel(int vessel) {
        return isIn(vessel, 0, house.vessels - 1);
    }

    private static int swapped(int[] row, int i, int v) {
        if (!isIn(i, 0, row.length - 1)) {
            return BAD;
        }
        int was = row[i];
        row[i] = v;
        return was;
    }

    /** UP, HANDS or SORT becomes v. */
    private int changed(int what, int v) {
        int was = what == 1 ? house.up : what == 2 ? house.hands : house.sort;
        if (what == 1 && isIn(v, 0, ALL_HOURS)) {
            house.up = v;
        } else if (what == 2 && isIn(v, 1, MOST_HANDS)) {
            house.hands = v;
        } else if (what == 3 && isIn(v, 0, 1)) {
            house.sort = v;
        } else {
            return BAD;
        }
        return was;
    }

    /** The day with all as it is now: what a call asks otherwise, it changes on the day alone. */
    private Day dawn() {
        if (isIn(house.rule, 0, TEXTS - 1)) {
            rule.text = texts[house.rule];
        }
        today.begin();
        return today;
    }

    /** Sets of hours are tried in the order of their bits, so that of like ones the least stays. */
    private static long bestHours(Day day, int left, int below, int bits, long best) {
        if (left <= 0 || left > MOST_RISES) {
            day.up = bits;
            return day.better(best, bits);
        }
        for (int hour = 0; hour < below; hour++) {
            best = bestHours(day, left - 1, hour, bits | 1 << hour, best);
        }
        return best;
    }

    private static int costOf(long best) {
        return (int) (best >> 32);
    }

    private static int choiceOf(long best) {
        return (int) best;
    }

    private int refusalOfSight(int sheet, int hour) {
        if (!isSheet(sheet) || !isHour(hour)) {
            return BAD;
        }
        if (sheets[sheet].sort == NONE) {
            return NOTHING;
        }
        return sheets[sheet].size == house.vessels ? FINE : BAD;
    }

    private boolean isAsSeen(int sheet, int hour, int set) {
        dawn().showers.keep(set);
        today.lay();
        today.run(hour + 1, ANY_COST);
        for (int v = 0; v < house.vessels && v < VESSELS; v++) {
            if (today.water[v] != sheets[sheet].items[v]) {
                return false;
            }
        }
        return true;
    }

    private static int sharedDivisor(int a, int b) {
        for (int d = b; d > 1; d--) {
            if (a % d == 0 && b % d == 0) {
                return d;
            }
        }
        return 1;
    }

    private int waterInAll() {
        int sum = 0;
        for (int v = 0; v < house.vessels && v < VESSELS; v++) {
            sum += house.water[v];
        }
        return sum;
    }

    private int rainBy(Sheet pairs, int from, int n) {
        int became = 0;
        for (int i = 0; i < n; i++) {
            // Behind 2 * i items that were there, the sum can't wrap; ahead of them from is all of it.
            int at = from + 2 * i;
            if (!pairs.hasAll(at, 2)) {
                return OUTSIDE;
            }
            int hour = pairs.items[at];
            int rain = pairs.items[at + 1];
            if (isHour(hour) && isIn(rain, 0, MOST_RAIN)) {
                house.rain[hour] = rain;
                became++;
            }
        }
        return became;
    }

    private static boolean isUnder(int kind, int k) {
        int at = kind;
        for (int n = 0; n < UNDER.length && isKind(at); n++) {
            if (at == k) {
                return true;
            }
            at = UNDER[at];
        }
        return false;
    }

    /** What is: rain, drips, vessels, when one gets up and by which rule. An image is another one of these. */
    private static final class House {
        final int[] rain = new int[HOURS];
        final int[] kind = new int[DRIPS];
        final int[] number = new int[DRIPS];
        final int[] rate = new int[DRIPS];
        final int[] place = new int[DRIPS];
        final int[] size = new int[VESSELS];
        final int[] stands = new int[VESSELS];
        final int[] water = new int[VESSELS];
        int drips;
        int vessels;
        int up;
        int hands = 2;
        int sort;
        int rule;

        void become(House other) {
            System.arraycopy(other.rain, 0, rain, 0, HOURS);
            System.arraycopy(other.kind, 0, kind, 0, DRIPS);
            System.arraycopy(other.number, 0, number, 0, DRIPS);
            System.arraycopy(other.rate, 0, rate, 0, DRIPS);
            System.arraycopy(other.place, 0, place, 0, DRIPS);
            System.arraycopy(other.size, 0, size, 0, VESSELS);
            System.arraycopy(other.stands, 0, stands, 0, VESSELS);
            System.arraycopy(other.water, 0, water, 0, VESSELS);
            drips = other.drips;
            vessels = other.vessels;
            up = other.up;
            hands = other.hands;
            sort = other.sort;
            rule = other.rule;
        }
    }

    /** A text as it was read: its three parts, one behind the other, each sign behind what it joins. */
    private static final class Text {
        static final int NAMES = 6;
        // A number stands for itself, the name i for -1 - i, a sign for one of these.
        static final int PLUS = -7, MINUS = -8, TIMES = -9, LESS = -10, LIKE = -11;
        static final int BOTH = -12, EITHER = -13, NOT = -14, NEGATIVE = -15;

        final int[] code = new int[TAPE];
        final int[] ends = new int[PARTS];
    }

    /** The tape, and what reads it. Behind a fault the token is WRONG, so nothing more is read. */
    private static final class Reader {
        private static final String WORDS = "rain hour place rate size gone falls harms wakes or and not ";
        private static final String SIGNS = "();+-*<=";
        // A sign's token is its own byte; these are bytes of no sign.
        private static final int END = 1, WRONG = 2, NUMBER = 3, NAME = 'a', KEY_FALLS = NAME + Text.NAMES;
        private static final int KEY_OR = KEY_FALLS + PARTS, KEY_AND = KEY_OR + 1, KEY_NOT = KEY_OR + 2;

        final int[] tape = new int[TAPE];
        int size;
        private Text text;
        private int length;
        private int at;
        private int token;
        private int start;
        private int number;
        private int open;
        private int fault;

        boolean take(int letter) {
            if (!isIn(size, 0, TAPE - 1)) {
                return false;
            }
            tape[size] = letter;
            size++;
            return true;
        }

        /** The place of the tape's fault; NONE: it was a text. The tape is empty then. */
        int read(Text into) {
            text = into;
            length = 0;
            at = 0;
            open = 0;
            fault = NONE;
            next();
            for (int part = 0; part < PARTS; part++) {
                need(KEY_FALLS + part);
                either();
                need(';');
                text.ends[part] = length;
            }
            need(END);
            size = 0;
            return fault;
        }

        private void either() {
            both();
            for (int n = 0; n < TAPE && token == KEY_OR; n++) {
                next();
                both();
                write(Text.EITHER);
            }
        }

        private void both() {
            denied();
            for (int n = 0; n < TAPE && token == KEY_AND; n++) {
                next();
                denied();
                write(Text.BOTH);
            }
        }

        private void denied() {
            if (token == KEY_NOT) {
                if (isOpened()) {
                    next();
                    denied();
                    write(Text.NOT);
                    open--;
                }
                return;
            }
            sum();
            if (token == '<' || token == '=') {
                int sign = token == '<' ? Text.LESS : Text.LIKE;
                next();
                sum();
                write(sign);
            }
        }

        private void sum() {
            term();
            for (int n = 0; n < TAPE && (token == '+' || token == '-'); n++) {
                int sign = token == '+' ? Text.PLUS : Text.MINUS;
                next();
                term();
                write(sign);
            }
        }

        private void term() {
            one();
            for (int n = 0; n < TAPE && token == '*'; n++) {
                next();
                one();
                write(Text.TIMES);
            }
        }

        private void one() {
            if (token == NUMBER) {
                write(number);
                next();
            } else if (isIn(token, NAME, NAME + Text.NAMES - 1)) {
                write(-1 - (token - NAME));
                next();
            } else if (token == '-') {
                if (isOpened()) {
                    next();
                    one();
                    write(Text.NEGATIVE);
                    open--;
                }
            } else if (token == '(') {
                if (isOpened()) {
                    next();
                    either();
                    need(')');
                    open--;
                }
            } else {
                spoil();
            }
        }

        private boolean isOpened() {
            if (open >= MOST_OPEN) {
                spoil();
                return false;
            }
            open++;
            return true;
        }

        private void need(int wanted) {
            if (token == wanted) {
                next();
            } else {
                spoil();
            }
        }

        private void spoil() {
            if (fault == NONE) {
                fault = start;
            }
            token = WRONG;
        }

        private void write(int sign) {
            if (isIn(length, 0, TAPE - 1)) {
                text.code[length] = sign;
                length++;
            }
        }

        private int letterAt(int place) {
            return place >= 0 && place < size && place < TAPE ? tape[place] : NONE;
        }

        private void next() {
            for (int n = 0; n < TAPE && (letterAt(at) == ' ' || letterAt(at) == '\n'); n++) {
                at++;
            }
            start = at;
            int letter = letterAt(at);
            if (letter == NONE) {
                token = END;
            } else if (isIn(letter, 'a', 'z')) {
                nextWord();
            } else if (isIn(letter, '0', '9')) {
                nextNumber();
            } else {
                token = SIGNS.indexOf((char) letter) >= 0 ? letter : WRONG;
                at++;
            }
        }

        private void nextNumber() {
            number = 0;
            for (int n = 0; n < TAPE && isIn(letterAt(at), '0', '9'); n++) {
                number = number * 10 + letterAt(at) - '0';
                at++;
            }
            token = at - start <= MOST_DIGITS ? NUMBER : WRONG;
        }

        private void nextWord() {
            for (int n = 0; n < TAPE && isIn(letterAt(at), 'a', 'z'); n++) {
                at++;
            }
            token = WRONG;
            int word = 0;
            int from = 0;
            for (int i = 0; i < WORDS.length(); i++) {
                if (WORDS.charAt(i) == ' ') {
                    token = isWord(from, i) ? NAME + word : token;
                    word++;
                    from = i + 1;
                }
            }
        }

        /** Whether the token's letters are those of WORDS from .. to. */
        private boolean isWord(int from, int to) {
            if (to - from != at - start || from < 0 || to > WORDS.length()) {
                return false;
            }
            for (int i = from; i < to; i++) {
                if (WORDS.charAt(i) != letterAt(start + i - from)) {
                    return false;
                }
            }
            return true;
        }
    }

    /** A text asked for what it tells. */
    private static final class Rule {
        Text text;
        private final int[] names = new int[Text.NAMES];
        private final int[] stack = new int[TAPE];

        Rule(Text first) {
            text = first;
        }

        /** Names what the text is asked of: ahead of each call of tells. */
        void name(int rain, int hour, int place, int rate, int size, int gone) {
            names[0] = rain;
            names[1] = hour;
            names[2] = place;
            names[3] = rate;
            names[4] = size;
            names[5] = gone;
        }

        /** What a part of the text tells of the names, 0 .. most. */
        int tells(int part, int most) {
            int from = part == PART_FALLS ? 0 : text.ends[part - 1];
            int to = text.ends[part];
            int[] code = text.code;
            int depth = 0;
            for (int i = from; i < to && i < TAPE && depth < TAPE; i++) {
                int sign = code[i];
                if (sign >= 0) {
                    stack[depth] = sign;
                    depth++;
                } else if (sign >= -Text.NAMES) {
                    stack[depth] = names[-1 - sign];
                    depth++;
                } else if (sign == Text.NOT && depth > 0) {
                    stack[depth - 1] = stack[depth - 1] == 0 ? 1 : 0;
                } else if (sign == Text.NEGATIVE && depth > 0) {
                    stack[depth - 1] = -stack[depth - 1];
                } else if (depth > 1) {
                    depth--;
                    stack[depth - 1] = joined(sign, stack[depth - 1], stack[depth]);
                }
            }
            return Math.max(0, Math.min(most, stack[0]));
        }

        private static int joined(int sign, int a, int b) {
            switch (sign) {
                case Text.PLUS:
                    return a + b;
                case Text.MINUS:
                    return a - b;
                case Text.TIMES:
                    return a * b;
                case Text.LESS:
                    return a < b ? 1 : 0;
                case Text.LIKE:
                    return a == b ? 1 : 0;
                case Text.BOTH:
                    return a != 0 && b != 0 ? 1 : 0;
                default:
                    return a != 0 || b != 0 ? 1 : 0;
            }
        }
    }

    /** What falls in each hour on each place: by the drips that are, or by those that a call thinks of. */
    private static final class Showers {
        private final House house;
        private final Rule rule;
        final int[] rain = new int[HOURS];
        private final int[] times = new int[DRIPS];
        private int led;
        private int ledTo;
        final int[] sums = new int[HOURS * PLACES];

        Showers(House ofHouse, Rule byRule) {
            house = ofHouse;
            rule = byRule;
        }

        void begin() {
            System.arraycopy(house.rain, 0, rain, 0, HOURS);
            for (int drip = 0; drip < DRIPS; drip++) {
                times[drip] = drip < house.drips ? 1 : 0;
            }
            led = NONE;
            ledTo = NONE;
        }

        void repeat(int drip, int n) {
            if (isIn(drip, 0, DRIPS - 1)) {
                times[drip] = n;
            }
        }

        void keep(int set) {
            for (int drip = 0; drip < DRIPS; drip++) {
                if ((set >> drip & 1) == 0) {
                    times[drip] = 0;
                }
            }
        }

        void steer(int drip, int place) {
            led = drip;
            ledTo = place;
        }

        void draw(int seed) {
            int z = seed;
            for (int hour = 0; hour < HOURS; hour++) {
                z = z * 1103515245 + 12345;
                rain[hour] = (z >>> 9) % 10;
            }
        }

        void lay() {
            for (int i = 0; i < HOURS * PLACES; i++) {
                sums[i] = 0;
            }
            for (int drip = 0; drip < DRIPS; drip++) {
                for (int hour = 0; hour < HOURS && times[drip] > 0; hour++) {
                    int place = drip == led ? ledTo : where(drip, hour);
                    if (isPlace(place)) {
                        sums[hour * PLACES + place] += times[drip] * amount(drip, hour, place);
                    }
                }
            }
        }

        /** The caller tells a drip and an hour that there are. */
        int where(int drip, int hour) {
            int number = house.number[drip];
            switch (house.kind[drip]) {
                case WANDERING:
                    return rain[hour] > number ? (house.place[drip] + 1) % PLACES : house.place[drip];
                case LED:
                    return number % PLACES;
                default:
                    return house.place[drip];
            }
        }

        /** What a drip that there is falls in an hour, if it falls on that place. */
        int amount(int drip, int hour, int place) {
            rule.name(rain[hour], hour, place, house.rate[drip], 0, 0);
            int v = rule.tells(PART_FALLS, MOST_FALLS);
            int number = house.number[drip];
            switch (house.kind[drip]) {
                case STEADY:
                    return steady(v);
                case WANDERING:
                    return wandering(v, rain[hour], number);
                case HIDDEN:
                    return hour < number ? 0 : 2 * steady(v);
                case LED:
                    return Math.min(MOST_LED, wandering(v, rain[hour], number));
                case NEW:
                    return hour < FIRST_NEW_HOUR ? 0 : steady(v);
                default:
                    return v;
            }
        }

        private static int steady(int v) {
            return v + 1;
        }

        private static int wandering(int v, int rain, int number) {
            return rain > number ? v / 2 : v;
        }
    }

    /** A day in thought, begun from what is and from what a call thinks otherwise. */
    private static final class Day {
        private final House house;
        private final Rule rule;
        final Showers showers;
        int up;
        int hands;
        int sort;
        private final int[] stands = new int[VESSELS];
        private final int[] vesselOn = new int[PLACES];
        final int[] water = new int[VESSELS];
        final int[] spilt = new int[PLACES];
        // The last harm asked in each hour on each place, and what for: ways to stand are mostly alike there.
        private final int[] askedFor = new int[HOURS * PLACES];
        private final int[] answered = new int[HOURS * PLACES];
        private int alone;
        int harm;
        int wakes;
        int over;
        int first;
        int fallen;

        Day(House ofHouse, Rule byRule) {
            house = ofHouse;
            rule = byRule;
            showers = new Showers(ofHouse, byRule);
        }

        void begin() {
            showers.begin();
            up = house.up;
            hands = house.hands;
            sort = house.sort;
            System.arraycopy(house.stands, 0, stands, 0, VESSELS);
        }

        /** To be called once rain, drips and rule are as the day shall have them, ahead of run. */
        void lay() {
            showers.lay();
            for (int i = 0; i < HOURS * PLACES; i++) {
                askedFor[i] = NONE;
            }
        }

        int costInAll() {
            lay();
            run(HOURS, ANY_COST);
            return cost();
        }

        int cost() {
            return harm + wakes;
        }

        /** The cost of this day and what was chosen for it, as one number; best, if that is no more. */
        long better(long best, int choice) {
            run(HOURS, costOf(best));
            return cost() < costOf(best) ? (long) cost() << 32 | choice & 0xFFFFFFFFL : best;
        }

        /** Puts the vessels by a way: a place is three bits of it, the last vessel's the lowest. */
        boolean isStoodBy(int way) {
            int used = 0;
            for (int v = 0; v < house.vessels && v < VESSELS; v++) {
                int place = placeBy(way, v);
                if ((used >> place & 1) != 0) {
                    return false;
                }
                used |= 1 << place;
                stands[v] = place;
            }
            return true;
        }

        int placeBy(int way, int vessel) {
            return way >> 3 * (house.vessels - 1 - vessel) & PLACES - 1;
        }

        /** The first so many hours, but no further once they cost so much: no hour costs less than 0. */
        void run(int hours, int enough) {
            harm = 0;
            wakes = 0;
            over = 0;
            first = NONE;
            fallen = 0;
            alone = 0;
            setOut();
            for (int hour = 0; hour < hours && hour < HOURS && cost() < enough; hour++) {
                if ((up >> hour & 1) != 0) {
                    rule.name(showers.rain[hour], hour, 0, 0, 0, alone);
                    wakes += rule.tells(PART_WAKES, MOST_WAKES);
                    emptySome();
                    alone = 0;
                }
                pour(hour);
                alone++;
            }
        }

        private void setOut() {
            for (int place = 0; place < PLACES; place++) {
                vesselOn[place] = NONE;
                spilt[place] = 0;
            }
            for (int v = 0; v < VESSELS; v++) {
                water[v] = house.water[v];
                if (v < house.vessels && isPlace(stands[v])) {
                    vesselOn[stands[v]] = v;
                }
            }
        }

        private void emptySome() {
            for (int n = 0; n < hands && n < MOST_HANDS; n++) {
                int v = nextToEmpty();
                if (!isIn(v, 0, VESSELS - 1)) {
                    return;
                }
                water[v] = 0;
            }
        }

        private int nextToEmpty() {
            int next = NONE;
            int most = 0;
            for (int v = 0; v < house.vessels && v < VESSELS; v++) {
                if (stands[v] != NONE && water[v] > 0) {
                    int full = sort == 0 ? water[v] : water[v] - house.size[v];
                    if (next == NONE || full > most) {
                        next = v;
                        most = full;
                    }
                }
            }
            return next;
        }

        private void pour(int hour) {
            for (int place = 0; place < PLACES; place++) {
                int rest = showers.sums[hour * PLACES + place];
                fallen += rest;
                int v = vesselOn[place];
                if (rest > 0 && isIn(v, 0, VESSELS - 1)) {
                    int caught = Math.min(rest, house.size[v] - water[v]);
                    water[v] += caught;
                    rest -= caught;
                }
                spilt[place] = rest;
                if (rest > 0) {
                    over += rest;
                    first = first == NONE ? hour : first;
                    harm += harmOn(hour, place, rest);
                }
            }
        }

        private int harmOn(int hour, int place, int size) {
            int i = hour * PLACES + place;
            int asked = size * HOURS + alone;
            if (askedFor[i] != asked) {
                askedFor[i] = asked;
                rule.name(showers.rain[hour], hour, place, 0, size, alone);
                answered[i] = rule.tells(PART_HARMS, MOST_HARMS);
            }
            return answered[i];
        }
    }

    /** A row of numbers of a sort (0 bytes, 1 shorts, 2 ints), or a missing one (NONE). */
    private static final class Sheet {
        int sort = NONE;
        int size;
        final int[] items = new int[ITEMS];

        void become(int newSort, int newSize) {
            sort = newSort;
            size = newSize;
            for (int i = 0; i < ITEMS; i++) {
                items[i] = 0;
            }
        }

        boolean take(int i, int v) {
            if (!isIn(i, 0, size - 1) || i >= ITEMS) {
                return false;
            }
            items[i] = sort == 0 ? (byte) v : sort == 1 ? (short) v : v;
            return true;
        }

        /** Whether the n items from i on are all there; of none, their place must be there all the same. */
        boolean hasAll(int i, int n) {
            return isIn(i, 0, size) && isIn(n, 0, size - i);
        }
    }
}
