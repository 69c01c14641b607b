/** What tests do again and again with an object. */
final class Roof {
    static final String FIRST_TEXT = "falls rate * rain ; harms size * 2 ; wakes 5 ;";

    private Roof() {
    }

    static void rain(UnderTheRoof x, int... rain) {
        for (int hour = 0; hour < rain.length; hour++) {
            x.set(0, hour, rain[hour]);
        }
    }

    static void rainAll(UnderTheRoof x, int rain) {
        for (int hour = 0; hour < 24; hour++) {
            x.set(0, hour, rain);
        }
    }

    static void feed(UnderTheRoof x, String letters) {
        for (int i = 0; i < letters.length(); i++) {
            x.feed(letters.charAt(i));
        }
    }

    /** Feeds a text and reads it. */
    static int read(UnderTheRoof x, String letters) {
        feed(x, letters);
        return x.text();
    }

    /** Reads a text and makes it the rule. */
    static void rule(UnderTheRoof x, String letters) {
        int text = read(x, letters);
        if (x.force(text) < 0) {
            throw new IllegalStateException("no text: " + letters + " answered " + text);
        }
    }

    static void sheet(UnderTheRoof x, int sheet, int sort, int... items) {
        x.sheet(sheet, sort, items.length);
        for (int i = 0; i < items.length; i++) {
            x.cell(sheet, i, items[i]);
        }
    }

    static int rainOf(UnderTheRoof x, int hour) {
        int was = x.set(0, hour, 0);
        x.set(0, hour, was);
        return was;
    }

    /** All that can be asked of an object without a change, sheets apart. */
    static long[] state(UnderTheRoof x) {
        long[] all = new long[160];
        int n = 0;
        for (int drip = 0; drip < 7; drip++) {
            for (int what = 0; what < 4; what++) {
                all[n++] = x.told(drip, what);
            }
        }
        for (int vessel = 0; vessel < 6; vessel++) {
            for (int what = 4; what < 7; what++) {
                all[n++] = x.told(vessel, what);
            }
        }
        for (int what = 0; what < 9; what++) {
            all[n++] = x.count(what);
        }
        for (int hour = 0; hour < 24; hour++) {
            all[n++] = rainOf(x, hour);
        }
        for (int what = 0; what < 6; what++) {
            all[n++] = x.day(what);
        }
        return all;
    }
}
