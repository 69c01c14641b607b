import java.util.Arrays;

/** Compares answers with those that are due, prints those that aren't, and counts them. */
final class Due {
    private int asked = 0;
    private int wrong = 0;

    void is(String call, long got, long want) {
        asked++;
        if (got != want) {
            wrong++;
            System.out.println(call + " answered " + got + ", due is " + want);
        }
    }

    void same(String call, long[] got, long[] want) {
        asked++;
        if (!Arrays.equals(got, want)) {
            wrong++;
            int at = Arrays.mismatch(got, want);
            System.out.println(call + " left another row, from place " + at + " on: "
                + (at < got.length ? got[at] : "its end") + ", due is " + (at < want.length ? want[at] : "its end"));
        }
    }

    void holds(String what, boolean holds) {
        is(what, holds ? 1 : 0, 1);
    }

    /** Ends the program: by 1, if an answer was wrong or none was asked. */
    void end(String test) {
        System.out.println(test + ": " + asked + " asked, " + wrong + " wrong");
        if (wrong > 0 || asked == 0) {
            System.exit(1);
        }
    }
}
