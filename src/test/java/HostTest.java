/** Promises 23 to 27: sheet, cell, copy, cars, taken. */
public final class HostTest {
    private static final Due DUE = new Due();
    private static final int[] FAR = {Integer.MIN_VALUE, -1, Integer.MAX_VALUE};

    public static void main(String[] args) {
        sheet();
        cell();
        copy();
        cars();
        taken();
        DUE.end();
    }

    private static void sheet() {
        OtherSidesPump x = new OtherSidesPump();
        int[] sheets = {Integer.MIN_VALUE, -1, 4, Integer.MAX_VALUE};
        for (int sheet : sheets) {
            DUE.is(23, "sheet(" + sheet + ", 0, 1)", x.sheet(sheet, 0, 1), -2);
        }
        int[] sorts = {Integer.MIN_VALUE, -2, 3, Integer.MAX_VALUE};
        for (int sort : sorts) {
            DUE.is(23, "sheet(0, " + sort + ", 1)", x.sheet(0, sort, 1), -2);
            DUE.is(23, "sheet(0, " + sort + ", -1)", x.sheet(0, sort, -1), -2);
        }
        for (int sort = 0; sort < 3; sort++) {
            DUE.is(23, "n of 41", x.sheet(0, sort, 41), -2);
            DUE.is(23, "n of the most", x.sheet(0, sort, Integer.MAX_VALUE), -2);
            DUE.is(23, "n of -1", x.sheet(0, sort, -1), -14);
            DUE.is(23, "n of the least", x.sheet(0, sort, Integer.MIN_VALUE), -14);
            DUE.is(23, "still missing", x.cell(0, 0, 0), -11);
        }
        DUE.is(23, "n of 40", x.sheet(0, 2, 40), 1);
        DUE.is(23, "item 39", x.cell(0, 39, 1), 1);
        DUE.is(23, "item 40", x.cell(0, 40, 1), -12);
        DUE.is(23, "a refused one stays", x.sheet(0, 2, 41), -2);
        DUE.is(23, "item 39", x.cell(0, 39, 1), 1);
        DUE.is(23, "n of 0", x.sheet(0, 1, 0), 1);
        DUE.is(23, "no items", x.cell(0, 0, 1), -12);
        for (int n : FAR) {
            x.sheet(0, 0, 1);
            DUE.is(23, "sheet(0, -1, " + n + ")", x.sheet(0, -1, n), 1);
            DUE.is(23, "missing", x.cell(0, 0, 1), -11);
        }
        // all 0 anew
        x.car(0, 0, 1);
        x.sheet(0, 2, 1);
        x.cell(0, 0, -1);
        DUE.is(23, "-1 stands there", x.tells(0, 0), 0);
        x.sheet(0, 2, 1);
        DUE.is(23, "0 stands there", x.tells(0, 0), 1);
    }

    private static void cell() {
        OtherSidesPump x = new OtherSidesPump();
        int[] sheets = {Integer.MIN_VALUE, -1, 4, Integer.MAX_VALUE};
        for (int sheet : sheets) {
            DUE.is(24, "cell(" + sheet + ", 0, 0)", x.cell(sheet, 0, 0), -2);
        }
        DUE.is(24, "missing", x.cell(0, 99, 0), -11);
        x.sheet(0, 1, 3);
        for (int i : FAR) {
            DUE.is(24, "cell(0, " + i + ", 0)", x.cell(0, i, 0), -12);
        }
        DUE.is(24, "cell(0, 3, 0)", x.cell(0, 3, 0), -12);
        DUE.is(24, "cell(0, 2, 0)", x.cell(0, 2, 0), 1);
        // one that doesn't fit is never off: told by -1 in the lowest bits
        x.car(0, 0, 1);
        int[][] asNone = {{0, 255, 0}, {0, -1, 0}, {0, 0x7fffffff, 0}, {0, 0x17f, 1}, {1, 255, 1}, {1, 65535, 0},
            {1, 0x7fffffff, 0}, {2, 65535, 1}, {2, 0x7fffffff, 1}, {2, -1, 0}};
        for (int[] row : asNone) {
            x.sheet(1, row[0], 1);
            x.cell(1, 0, row[1]);
            DUE.is(24, "sort " + row[0] + ", " + row[1], x.tells(1, 0), row[2]);
        }
    }

    private static void copy() {
        OtherSidesPump x = new OtherSidesPump();
        x.sheet(0, 1, 5);
        x.sheet(1, 1, 3);
        x.sheet(2, 2, 5);
        int[] sheets = {Integer.MIN_VALUE, -1, 4, Integer.MAX_VALUE};
        for (int sheet : sheets) {
            DUE.is(25, "from " + sheet, x.copy(sheet, 0, 0, 0, 1), -2);
            DUE.is(25, "to " + sheet, x.copy(0, 0, sheet, 0, 1), -2);
            DUE.is(25, "missing to " + sheet, x.copy(3, 0, sheet, 0, 1), -2);
        }
        DUE.is(25, "from a missing one", x.copy(3, 0, 0, 0, -1), -11);
        DUE.is(25, "to a missing one", x.copy(0, 0, 3, 0, 99), -11);
        DUE.is(25, "a missing one to itself", x.copy(3, 0, 3, 0, 0), -11);
        DUE.is(25, "unlike sorts", x.copy(0, 0, 2, 0, -1), -13);
        DUE.is(25, "unlike sorts, nothing", x.copy(2, 0, 1, 0, 0), -13);
        int[][] outside = {{-1, 0, 1}, {0, -1, 1}, {0, 0, -1}, {0, 0, 4}, {3, 0, 3}, {0, 1, 3}, {6, 0, 0}, {0, 4, 0},
            {5, 0, 1}, {Integer.MAX_VALUE, 0, 1}, {0, Integer.MAX_VALUE, 1}, {1, 1, Integer.MAX_VALUE},
            {Integer.MIN_VALUE, 0, 1}, {0, 0, Integer.MIN_VALUE}, {-1, 0, 0}};
        for (int[] o : outside) {
            DUE.is(25, "copy(0, " + o[0] + ", 1, " + o[1] + ", " + o[2] + ")", x.copy(0, o[0], 1, o[1], o[2]), -12);
        }
        DUE.is(25, "nothing at the ends", x.copy(0, 5, 1, 3, 0), 0);
        DUE.is(25, "all", x.copy(0, 2, 1, 0, 3), 3);
        overlap(0, 1, new int[] {4, 4, 5, 6});
        overlap(1, 0, new int[] {5, 6, 7, 7});
    }

    /** Three numbers of 4, 5, 6, 7 come to another place of the same sheet as they were. */
    private static void overlap(int i, int j, int[] want) {
        OtherSidesPump x = new OtherSidesPump();
        x.sheet(0, 2, 4);
        int[] off = {4, 5, 6, 7};
        for (int k = 0; k < 4; k++) {
            x.cell(0, k, off[k]);
        }
        DUE.is(25, "onto itself", x.copy(0, i, 0, j, 3), 3);
        // bikes and cars that are off when want says so
        for (int k = 0; k < 4; k++) {
            x.car(4, 0, k);
            x.set(3, k, want[k] - 2);
        }
        DUE.is(25, "what stands there", x.tells(0, 0), 0);
    }

    private static void row(OtherSidesPump x, int sheet, int sort, int... items) {
        x.sheet(sheet, sort, items.length);
        for (int i = 0; i < items.length; i++) {
            x.cell(sheet, i, items[i]);
        }
    }

    private static void cars() {
        OtherSidesPump x = new OtherSidesPump();
        row(x, 0, 0, 99, 1, 2, 3, 6, 0, 0, 4, 5, 0, 5, 9);
        int[] wrong = {Integer.MIN_VALUE, -1, 4, Integer.MAX_VALUE};
        for (int sheet : wrong) {
            DUE.is(26, "sheet " + sheet, x.cars(sheet, 0, 0, 1), -2);
        }
        int[] sorts = {Integer.MIN_VALUE, -1, 3, Integer.MAX_VALUE};
        for (int sort : sorts) {
            DUE.is(26, "sort " + sort, x.cars(0, sort, 0, 1), -2);
            DUE.is(26, "a missing one as " + sort, x.cars(1, sort, 0, 1), -2);
        }
        int[] ns = {Integer.MIN_VALUE, -1, 7, Integer.MAX_VALUE};
        for (int n : ns) {
            DUE.is(26, "n " + n, x.cars(0, 0, 0, n), -2);
            DUE.is(26, "n " + n + " of another sort", x.cars(0, 1, 0, n), -2);
        }
        DUE.is(26, "as shorts", x.cars(0, 1, 99, 6), -13);
        DUE.is(26, "as ints, none", x.cars(0, 2, 0, 0), -13);
        for (int sort = 0; sort < 3; sort++) {
            DUE.is(26, "a missing one", x.cars(1, sort, -1, 0), -11);
        }
        for (int from : FAR) {
            DUE.is(26, "none from " + from, x.cars(0, 0, from, 0), 0);
            DUE.is(26, "one from " + from, x.cars(0, 0, from, 1), -12);
        }
        DUE.is(26, "nobody came", x.count(0), 0);
        DUE.is(26, "three of them", x.cars(0, 0, 1, 3), 2);
        int[] first = {2, 0, 3, 0, 0, 1};
        int[] second = {5, 0, 0, 0, 0, 4};
        for (int what = 0; what < 6; what++) {
            DUE.is(26, "told(0, " + what + ")", x.told(0, what), first[what]);
            DUE.is(26, "told(1, " + what + ")", x.told(1, what), second[what]);
        }
        // the fourth one has but two numbers: what stood ahead came
        DUE.is(26, "outside", x.cars(0, 0, 1, 4), -12);
        DUE.is(26, "count(0)", x.count(0), 4);
        DUE.is(26, "full: two have room", x.cars(0, 0, 1, 3), 2);
        DUE.is(26, "full: left out", x.cars(0, 0, 1, 3), 0);
        DUE.is(26, "full: outside all the same", x.cars(0, 0, 1, 4), -12);
        DUE.is(26, "count(0)", x.count(0), 6);
        OtherSidesPump y = new OtherSidesPump();
        row(y, 0, 2, 0, 0, 0, 0, 0, 1, 0, 0, 2, 0, 0, 3, 1, 1, 1, 2, 2, 2, 3, 3, 3);
        DUE.is(26, "six", y.cars(0, 2, 0, 6), 6);
        DUE.is(26, "the sixth", y.told(5, 5), 2);
    }

    private static void taken() {
        OtherSidesPump x = new OtherSidesPump();
        for (int kind = 0; kind < 6; kind++) {
            x.car(kind, kind + 3, 0);
        }
        boolean[][] under = {
            {true, false, false, false, false, false}, {true, true, false, false, false, false},
            {true, false, true, false, false, false}, {true, true, false, true, false, false},
            {true, false, true, false, true, false}, {true, false, false, false, false, true}};
        for (int car = 0; car < 6; car++) {
            for (int k = 0; k < 6; k++) {
                DUE.is(27, "taken(" + car + ", " + k + ")", x.taken(car, k), under[car][k] ? car + 3 : -13);
            }
        }
        int[] wrong = {Integer.MIN_VALUE, -1, 6, Integer.MAX_VALUE};
        for (int n : wrong) {
            DUE.is(27, "taken(0, " + n + ")", x.taken(0, n), -2);
            DUE.is(27, "taken(" + n + ", 0)", x.taken(n, 0), -11);
            DUE.is(27, "taken(9, " + n + ")", x.taken(9, n), -2);
        }
    }
}
