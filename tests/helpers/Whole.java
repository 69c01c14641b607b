import java.util.Arrays;

/**
 * All that an object holds, found by calls alone. Looking changes the object, so each part looks at one of
 * its own, and stays far below 512 calls.
 */
final class Whole {
    static final int PARTS = 4;

    private final UnderTheRoof x;
    private final long[] all = new long[256];
    private int n = 0;

    private Whole(UnderTheRoof x) {
        this.x = x;
    }

    static long[] of(int part, UnderTheRoof x) {
        Whole whole = new Whole(x);
        switch (part) {
            case 0:
                whole.house();
                break;
            case 1:
                whole.sheets();
                break;
            case 2:
                whole.texts();
                break;
            default:
                whole.image();
                break;
        }
        return Arrays.copyOf(whole.all, whole.n);
    }

    private void add(long v) {
        all[n] = v;
        n++;
    }

    private void house() {
        for (int what = 0; what < 9; what++) {
            add(x.count(what));
        }
        for (int drip = 0; drip < 6; drip++) {
            for (int what = 0; what < 4; what++) {
                add(x.told(drip, what));
            }
        }
        for (int vessel = 0; vessel < 5; vessel++) {
            for (int what = 4; what < 7; what++) {
                add(x.told(vessel, what));
            }
        }
        rain();
    }

    private void rain() {
        for (int hour = 0; hour < 24; hour++) {
            add(x.set(0, hour, 0));
        }
    }

    /** Of each sheet its sort, its size, and what RAIN its pairs tell. */
    private void sheets() {
        rain();
        for (int sheet = 0; sheet < 4; sheet++) {
            int sort = -1;
            for (int s = 0; s < 3; s++) {
                int answer = x.rains(sheet, s, 0, 0);
                sort = answer == 0 ? s : sort;
                add(answer);
            }
            int size = sort < 0 ? -1 : sizeOf(sheet);
            add(size);
            if (size >= 2) {
                add(x.rains(sheet, sort, 0, size / 2));
                rain();
            }
        }
    }

    /** The last item behind which nothing can still be copied. */
    private int sizeOf(int sheet) {
        int size = 0;
        for (int step = 32; step > 0; step /= 2) {
            size += x.copy(sheet, size + step, sheet, size + step, 0) == 0 ? step : 0;
        }
        return size;
    }

    /** THE TAPE as the beginning of a text, and what each text tells. */
    private void texts() {
        add(x.count(7));
        Roof.feed(x, "ms 3;wakes 2;");
        add(x.count(6));
        add(x.text());
        add(x.drip(0, 3, 2));
        x.set(0, 13, 2);
        x.set(1, 0, 1 << 12);
        for (int text = 0; text < 6; text++) {
            add(x.force(text));
            add(x.falls(0, 13, 0));
            add(x.day(0));
            add(x.day(1));
        }
    }

    private void image() {
        add(x.back());
        house();
    }
}
