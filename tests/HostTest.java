/** Promises 29 to 33: sheets, rain by a sheet, drips taken for a kind. */
public final class HostTest {
    private static final Due DUE = new Due();
    private static final int LEAST = Integer.MIN_VALUE;
    private static final int MOST = Integer.MAX_VALUE;

    public static void main(String[] args) {
        sheets();
        cells();
        lowestBits();
        copies();
        copiesOnItself();
        copyRefused();
        rains();
        rainsRefused();
        rainsOutside();
        taken();
        DUE.end("HostTest");
    }

    /** Whether item i of a sheet is v (0 .. 9): its RAIN comes into HOUR 23 from a copy behind a 23. */
    private static void item(String what, UnderTheRoof x, int sheet, int sort, int i, int v) {
        int scratch = sheet == 3 ? 2 : 3;
        x.sheet(scratch, sort, 2);
        x.cell(scratch, 0, 23);
        DUE.is(what + ": copied", x.copy(sheet, i, scratch, 1, 1), 1);
        x.set(0, 23, v == 0 ? 1 : 0);
        DUE.is(what + ": rained", x.rains(scratch, sort, 0, 1), 1);
        DUE.is(what + ": item " + i, x.set(0, 23, 0), v);
    }

    /** Promise 29. */
    private static void sheets() {
        UnderTheRoof x = new UnderTheRoof();
        int[][] bad = {{-1, 0, 1}, {4, 0, 1}, {0, -2, 1}, {0, 3, 1}, {0, 0, 41}, {0, 2, MOST}, {MOST, 0, 1},
            {LEAST, 0, 1}, {0, MOST, 1}, {0, LEAST, 1}, {4, 0, -1}, {0, 3, -1}, {0, -2, -1}, {-1, -1, 0}, {4, -1, 0}};
        for (int[] a : bad) {
            DUE.is("29: sheet(" + a[0] + ", " + a[1] + ", " + a[2] + ")", x.sheet(a[0], a[1], a[2]), -2);
        }
        DUE.is("29: a size below 0", x.sheet(0, 0, -1), -14);
        DUE.is("29: a size far below 0", x.sheet(3, 2, LEAST), -14);
        DUE.is("29: still missing", x.cell(0, 0, 0), -11);
        for (int sheet = 0; sheet < 4; sheet++) {
            DUE.is("29: sheet " + sheet, x.sheet(sheet, sheet % 3, 40), 1);
            DUE.is("29: its last item", x.cell(sheet, 39, 1), 1);
            DUE.is("29: behind it", x.cell(sheet, 40, 1), -12);
        }
        DUE.is("29: none at all", x.sheet(0, 1, 0), 1);
        DUE.is("29: its first item", x.cell(0, 0, 1), -12);
        DUE.is("29: refused, it stays", x.sheet(1, 0, -5), -14);
        DUE.is("29: refused, its last item", x.cell(1, 39, 1), 1);
        DUE.is("29: refused, too large", x.sheet(1, 0, 41), -2);
        DUE.is("29: refused, its sort", x.rains(1, 1, 0, 0), 0);
        Roof.sheet(x, 1, 1, 5, 6, 7);
        x.sheet(1, 1, 3);
        for (int i = 0; i < 3; i++) {
            item("29: all 0", x, 1, 1, i, 0);
        }
        for (int n : new int[] {0, 40, 41, -1, MOST, LEAST}) {
            x.sheet(2, 0, 2);
            DUE.is("29: missing, n " + n, x.sheet(2, -1, n), 1);
            DUE.is("29: missing, n " + n + ": a cell", x.cell(2, 0, 0), -11);
        }
        DUE.is("29: missing again", x.sheet(2, -1, 0), 1);
    }

    /** Promise 30. */
    private static void cells() {
        UnderTheRoof x = new UnderTheRoof();
        x.sheet(1, 2, 3);
        for (int i = 0; i < 3; i++) {
            DUE.is("30: item " + i, x.cell(1, i, 7 + i), 1);
        }
        DUE.is("30: item 0 again", x.cell(1, 0, 4), 1);
        int[][] refused = {{-1, 0, -2}, {4, 0, -2}, {4, 9, -2}, {MOST, 0, -2}, {LEAST, 0, -2}, {0, 0, -11}, {0, 99, -11},
            {3, -1, -11}, {1, 3, -12}, {1, -1, -12}, {1, MOST, -12}, {1, LEAST, -12}};
        for (int[] a : refused) {
            DUE.is("30: cell(" + a[0] + ", " + a[1] + ", 0)", x.cell(a[0], a[1], 0), a[2]);
        }
        item("30", x, 1, 2, 0, 4);
        item("30", x, 1, 2, 1, 8);
        item("30", x, 1, 2, 2, 9);
    }

    private static void lowestBits() {
        int[][] cells = {{256 + 5, 65536 + 5, 5}, {-251, -65531, 5}, {65536 + 9, 65536 * 7 + 9, 9}};
        UnderTheRoof x = new UnderTheRoof();
        x.sheet(0, 0, 3);
        x.sheet(1, 1, 3);
        x.sheet(2, 2, 3);
        for (int[] c : cells) {
            x.cell(0, 1, c[0]);
            item("30: bytes, " + c[0], x, 0, 0, 1, c[2]);
            x.cell(1, 1, c[1]);
            item("30: shorts, " + c[1], x, 1, 1, 1, c[2]);
        }
        // 256 + 5 is no RAIN, if it is not cut.
        x.cell(1, 0, 3);
        x.cell(1, 1, 256 + 5);
        DUE.is("30: shorts are not cut as bytes", x.rains(1, 1, 0, 1), 0);
        x.cell(2, 0, 3);
        x.cell(2, 1, 65536 + 5);
        DUE.is("30: ints are not cut", x.rains(2, 2, 0, 1), 0);
        x.cell(0, 0, 255);
        x.cell(0, 1, 5);
        DUE.is("30: no HOUR 255 or -1", x.rains(0, 0, 0, 1), 0);
    }

    /** Promise 31. */
    private static void copies() {
        UnderTheRoof x = new UnderTheRoof();
        Roof.sheet(x, 0, 1, 1, 2, 3, 4, 5);
        x.sheet(1, 1, 4);
        DUE.is("31: three", x.copy(0, 2, 1, 1, 3), 3);
        int[] due = {0, 3, 4, 5};
        for (int i = 0; i < 4; i++) {
            item("31: three", x, 1, 1, i, due[i]);
        }
        for (int i = 0; i < 5; i++) {
            item("31: where they come from", x, 0, 1, i, i + 1);
        }
        DUE.is("31: none", x.copy(0, 0, 1, 0, 0), 0);
        DUE.is("31: none behind the last", x.copy(0, 5, 1, 4, 0), 0);
        DUE.is("31: all", x.copy(1, 0, 0, 1, 4), 4);
        item("31: all, the last", x, 0, 1, 4, 5);
        item("31: all, the first", x, 0, 1, 1, 0);
    }

    private static void copiesOnItself() {
        UnderTheRoof x = new UnderTheRoof();
        Roof.sheet(x, 0, 0, 1, 2, 3, 4, 5);
        DUE.is("31: on itself, upward", x.copy(0, 0, 0, 1, 4), 4);
        int[] up = {1, 1, 2, 3, 4};
        for (int i = 0; i < 5; i++) {
            item("31: upward, as they were", x, 0, 0, i, up[i]);
        }
        Roof.sheet(x, 0, 0, 1, 2, 3, 4, 5);
        DUE.is("31: on itself, downward", x.copy(0, 1, 0, 0, 4), 4);
        int[] down = {2, 3, 4, 5, 5};
        for (int i = 0; i < 5; i++) {
            item("31: downward, as they were", x, 0, 0, i, down[i]);
        }
    }

    private static void copyRefused() {
        UnderTheRoof x = new UnderTheRoof();
        Roof.sheet(x, 0, 0, 1, 2, 3);
        Roof.sheet(x, 1, 0, 4, 5);
        Roof.sheet(x, 2, 1, 6, 7);
        int[][] refused = {{-1, 0, 0, 0, 1, -2}, {4, 0, 0, 0, 1, -2}, {0, 0, -1, 0, 1, -2}, {0, 0, 4, 0, 1, -2},
            {3, 0, 4, 0, 1, -2}, {4, 0, 3, 0, 1, -2}, {MOST, 0, 0, 0, 1, -2}, {0, 0, LEAST, 0, 1, -2},
            {3, 0, 0, 0, 1, -11}, {0, 0, 3, 0, 1, -11}, {3, 0, 3, 0, 0, -11}, {2, 0, 3, 0, -1, -11},
            {3, 9, 2, 9, 9, -11}, {0, 0, 2, 0, 1, -13}, {2, 0, 1, 0, 1, -13}, {2, 9, 1, 9, 9, -13},
            {0, 0, 2, 0, -1, -13}, {0, -1, 1, 0, 1, -12}, {0, 0, 1, -1, 1, -12}, {0, 0, 1, 0, -1, -12},
            {0, 3, 1, 0, 1, -12}, {0, 0, 1, 2, 1, -12}, {0, 0, 1, 0, 3, -12}, {1, 0, 0, 0, 3, -12},
            {0, 4, 1, 0, 0, -12}, {0, 0, 1, 3, 0, -12}, {0, -1, 1, 0, 0, -12}, {0, 0, 1, -1, 0, -12},
            {0, 1, 1, 0, MOST, -12}, {0, MOST, 1, 0, 1, -12}, {0, 0, 1, MOST, 1, -12}, {0, MOST, 1, MOST, MOST, -12},
            {0, LEAST, 1, 0, 1, -12}, {0, 0, 1, LEAST, 1, -12}, {0, 0, 1, 0, LEAST, -12}, {0, 2, 0, 2, 2, -12},
            {0, LEAST, 1, LEAST, LEAST, -12}};
        for (int[] a : refused) {
            DUE.is("31: copy(" + a[0] + ", " + a[1] + ", " + a[2] + ", " + a[3] + ", " + a[4] + ")",
                x.copy(a[0], a[1], a[2], a[3], a[4]), a[5]);
        }
        for (int i = 0; i < 3; i++) {
            item("31: refused", x, 0, 0, i, 1 + i);
        }
        item("31: refused", x, 1, 0, 0, 4);
        item("31: refused", x, 1, 0, 1, 5);
        item("31: refused", x, 2, 1, 0, 6);
    }

    /** Promise 32. */
    private static void rains() {
        UnderTheRoof x = new UnderTheRoof();
        Roof.sheet(x, 1, 2, 0, 5, 23, 9, 24, 5, -1, 5, 7, 10, 8, -1, 0, 6, 9, 0);
        DUE.is("32: none", x.rains(1, 2, 0, 0), 0);
        DUE.is("32: none, from outside", x.rains(1, 2, 99, 0), 0);
        DUE.is("32: none, rain stays", Roof.rainOf(x, 0), 0);
        DUE.is("32: eight", x.rains(1, 2, 0, 8), 4);
        int[] due = new int[24];
        due[0] = 6;
        due[23] = 9;
        for (int hour = 0; hour < 24; hour++) {
            DUE.is("32: rain of hour " + hour, Roof.rainOf(x, hour), due[hour]);
        }
        Roof.sheet(x, 1, 0, 99, 5, 4, 6, 3);
        DUE.is("32: from 1 on", x.rains(1, 0, 1, 2), 2);
        DUE.is("32: rain of hour 5", Roof.rainOf(x, 5), 4);
        DUE.is("32: rain of hour 6", Roof.rainOf(x, 6), 3);
        x.sheet(2, 1, 40);
        DUE.is("32: twenty of them", x.rains(2, 1, 0, 20), 20);
        DUE.is("32: they became", Roof.rainOf(x, 0), 0);
    }

    private static void rainsRefused() {
        UnderTheRoof x = new UnderTheRoof();
        Roof.sheet(x, 1, 1, 3, 5, 4, 5);
        int[][] refused = {{-1, 1, 0, 1, -2}, {4, 1, 0, 1, -2}, {1, -1, 0, 1, -2}, {1, 3, 0, 1, -2}, {1, 1, 0, -1, -2},
            {1, 1, 0, 21, -2}, {0, 3, 0, 1, -2}, {0, 1, 0, 21, -2}, {1, 0, 0, 21, -2}, {MOST, 1, 0, 1, -2},
            {LEAST, 1, 0, 1, -2}, {1, MOST, 0, 1, -2}, {1, 1, 0, MOST, -2}, {1, 1, 0, LEAST, -2},
            {1, 0, 0, 1, -13}, {1, 2, 0, 1, -13}, {1, 0, 99, 1, -13}, {1, 0, 0, 0, -13},
            {0, 0, 0, 1, -11}, {0, 1, 0, 0, -11}, {3, 2, 99, 1, -11}};
        for (int[] a : refused) {
            DUE.is("32: rains(" + a[0] + ", " + a[1] + ", " + a[2] + ", " + a[3] + ")",
                x.rains(a[0], a[1], a[2], a[3]), a[4]);
        }
        DUE.is("32: refused, hour 3", Roof.rainOf(x, 3), 0);
    }

    private static void rainsOutside() {
        UnderTheRoof x = new UnderTheRoof();
        Roof.sheet(x, 1, 1, 3, 5, 4, 6, 7);
        for (int from : new int[] {-1, -2, 4, 5, 6, MOST, MOST - 1, LEAST}) {
            DUE.is("32: from " + from, x.rains(1, 1, from, 2), -12);
        }
        DUE.is("32: nothing stood ahead, hour 3", Roof.rainOf(x, 3), 0);
        DUE.is("32: nothing stood ahead, hour 7", Roof.rainOf(x, 7), 0);
        DUE.is("32: the third pair ends too early", x.rains(1, 1, 0, 3), -12);
        DUE.is("32: what stood ahead, hour 3", Roof.rainOf(x, 3), 5);
        DUE.is("32: what stood ahead, hour 4", Roof.rainOf(x, 4), 6);
        DUE.is("32: not what came behind", Roof.rainOf(x, 7), 0);
        x.sheet(2, 1, 40);
        DUE.is("32: from the last item", x.rains(2, 1, 39, 1), -12);
        DUE.is("32: one too many", x.rains(2, 1, 2, 20), -12);
        DUE.is("32: from the last but one", x.rains(2, 1, 38, 1), 1);
    }

    /** Promise 33. */
    private static void taken() {
        UnderTheRoof x = new UnderTheRoof();
        int[][] under = {{0}, {0, 1}, {0, 2}, {0, 1, 3}, {0, 2, 4}, {0, 1, 5}};
        for (int kind = 0; kind < 6; kind++) {
            x.drip(kind, 10 * (kind + 2) + 9, 0);
            for (int k = 0; k < 6; k++) {
                boolean is = false;
                for (int above : under[kind]) {
                    is |= above == k;
                }
                DUE.is("33: taken(" + kind + ", " + k + ")", x.taken(kind, k), is ? kind + 2 : -13);
            }
        }
        UnderTheRoof y = new UnderTheRoof();
        y.drip(1, 50, 0);
        int[][] refused = {{0, -1, -2}, {0, 6, -2}, {9, 6, -2}, {0, MOST, -2}, {0, LEAST, -2}, {1, 0, -11}, {-1, 0, -11},
            {1, 5, -11}, {MOST, 0, -11}, {LEAST, 1, -11}, {0, 2, -13}};
        for (int[] a : refused) {
            DUE.is("33: taken(" + a[0] + ", " + a[1] + ")", y.taken(a[0], a[1]), a[2]);
        }
    }
}
