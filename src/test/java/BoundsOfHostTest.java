/** The bounds of promises 23 to 27, sentence by sentence: sheet, cell, copy, cars, taken. */
public final class BoundsOfHostTest {
    private static final Sentences DOC = new Sentences();
    private static final int LEAST = Sentences.LEAST, MOST = Sentences.MOST;
    private static final int BYTES = 0, SHORTS = 1, INTS = 2;
    private static final int[] NO_SHEET = {LEAST, -1, 4, 5, MOST};

    public static void main(String[] args) {
        refusalsOfTheHost();
        sheets();
        sheet();
        cell();
        lowestBits();
        copy();
        copiedAsTheyWere();
        refusalsOfCars();
        carsThatCame();
        outsideOfCars();
        taken();
        DOC.end();
    }

    private static void refusalsOfTheHost() {
        DOC.says(0, "the host's: -11 nothing where something is asked, -12 a place outside, "
            + "-13 a thing of another sort or KIND, -14 a size below 0.");
        OtherSidesPump x = new OtherSidesPump();
        DOC.is("no sheet", x.cell(0, 0, 0), -11);
        DOC.is("no car", x.taken(0, 0), -11);
        x.sheet(0, BYTES, 1);
        DOC.is("the last place", x.cell(0, 0, 0), 1);
        DOC.is("a place outside", x.cell(0, 1, 0), -12);
        DOC.is("a sheet of its sort", x.cars(0, BYTES, 0, 0), 0);
        DOC.is("a sheet of another sort", x.cars(0, SHORTS, 0, 0), -13);
        x.car(2, 8, 0);
        DOC.is("a car of its kind", x.taken(0, 2), 8);
        DOC.is("a car of another kind", x.taken(0, 4), -13);
        DOC.is("a size of 0", x.sheet(0, BYTES, 0), 1);
        DOC.is("a size below 0", x.sheet(0, BYTES, -1), -14);
    }

    private static void sheets() {
        DOC.says(23, "SHEETS 0 .. 3 are rows of numbers, or missing (as all are at first): of sort 0 bytes, 1 shorts, 2 ints.");
        OtherSidesPump x = new OtherSidesPump();
        for (int sheet = 0; sheet < 4; sheet++) {
            DOC.is("cell(" + sheet + ", 0, 0) at first", x.cell(sheet, 0, 0), -11);
            DOC.is("tells(" + sheet + ", 0) at first", x.tells(sheet, 0), -11);
            DOC.is("cars(" + sheet + ", 0, 0, 0) at first", x.cars(sheet, BYTES, 0, 0), -11);
            DOC.is("copy(" + sheet + ", ..) at first", x.copy(sheet, 0, sheet, 0, 0), -11);
        }
        for (int sort = 0; sort < 3; sort++) {
            for (int as = 0; as < 3; as++) {
                x.sheet(sort, sort, 1);
                x.sheet(3, as, 1);
                DOC.is("sort " + sort + " to sort " + as, x.copy(sort, 0, 3, 0, 1), sort == as ? 1 : -13);
                DOC.is("sort " + sort + " for sort " + as, x.cars(sort, as, 0, 0), sort == as ? 0 : -13);
            }
        }
    }

    private static void sheet() {
        DOC.says(23, "A SHEET becomes a row of n of a sort, all 0, or missing (sort -1: n does not matter): 1.");
        OtherSidesPump x = Station.with(1, 0, 1);
        for (int sheet = 0; sheet < 4; sheet++) {
            for (int sort = 0; sort < 3; sort++) {
                DOC.is("sheet(" + sheet + ", " + sort + ", 40)", x.sheet(sheet, sort, 40), 1);
                DOC.is("item 39", x.cell(sheet, 39, 0), 1);
                DOC.is("item 40", x.cell(sheet, 40, 0), -12);
                DOC.is("sheet(" + sheet + ", " + sort + ", 0)", x.sheet(sheet, sort, 0), 1);
                DOC.is("item 0 of none", x.cell(sheet, 0, 0), -12);
                DOC.is("it isn't missing", x.copy(sheet, 0, sheet, 0, 0), 0);
            }
        }
        // all 0, whatever stood there; sheet 1 tells -1, which is so
        for (int sort = 0; sort < 3; sort++) {
            Station.row(x, 0, sort, -1, -1, -1);
            Station.row(x, 1, sort, -1);
            DOC.is("-1 is so", x.tells(1, 0), 0);
            x.sheet(0, sort, 3);
            for (int i = 0; i < 3; i++) {
                x.copy(0, i, 1, 0, 1);
                DOC.is("item " + i + " isn't", x.tells(1, 0), 1);
                DOC.is("it is a kind, 0", kindAt(x, 1, sort), 0);
            }
        }
        int[] any = {LEAST, -1, 0, 1, 40, 41, MOST};
        for (int n : any) {
            x.sheet(2, INTS, 3);
            DOC.is("sheet(2, -1, " + n + ")", x.sheet(2, -1, n), 1);
            DOC.is("it is missing", x.cell(2, 0, 0), -11);
            DOC.is("it may be made missing again", x.sheet(2, -1, n), 1);
        }
        DOC.says(23, "BAD: no such SHEET, sort; n above 40; -14.");
        OtherSidesPump y = new OtherSidesPump();
        for (int sheet : NO_SHEET) {
            DOC.is("sheet(" + sheet + ", 0, 1)", y.sheet(sheet, BYTES, 1), -2);
            DOC.is("sheet(" + sheet + ", -1, 1)", y.sheet(sheet, -1, 1), -2);
            DOC.is("BAD ahead of -14: sheet(" + sheet + ", 0, -1)", y.sheet(sheet, BYTES, -1), -2);
        }
        int[] noSort = {LEAST, -2, 3, 4, MOST};
        for (int sort : noSort) {
            DOC.is("sheet(0, " + sort + ", 1)", y.sheet(0, sort, 1), -2);
            DOC.is("BAD ahead of -14: sheet(0, " + sort + ", -1)", y.sheet(0, sort, -1), -2);
        }
        for (int sort = 0; sort < 3; sort++) {
            DOC.is("n of 41", y.sheet(0, sort, 41), -2);
            DOC.is("n of the most", y.sheet(0, sort, MOST), -2);
            DOC.is("n of -1", y.sheet(0, sort, -1), -14);
            DOC.is("n of the least", y.sheet(0, sort, LEAST), -14);
            DOC.is("it is missing as before", y.cell(0, 0, 0), -11);
        }
    }

    /** The first number of a sheet, read as the kind of a car that comes, and goes again: NONE where it is no kind. */
    private static int kindAt(OtherSidesPump x, int sheet, int sort) {
        int cars = x.image();
        int spare = 3 - sheet;
        x.sheet(spare, sort, 3);
        x.copy(sheet, 0, spare, 0, 1);
        int kind = x.cars(spare, sort, 0, 1) == 1 ? x.told(cars, 5) : -1;
        x.back();
        return kind;
    }

    private static void cell() {
        DOC.says(24, "Item i of a SHEET becomes v (of bytes, shorts its lowest 8, 16 bits): 1. BAD: no such SHEET; -11; -12.");
        OtherSidesPump x = new OtherSidesPump();
        int[] noItem = {LEAST, -1, 3, 4, 40, MOST};
        for (int sheet : NO_SHEET) {
            DOC.is("cell(" + sheet + ", 0, 0)", x.cell(sheet, 0, 0), -2);
            DOC.is("cell(" + sheet + ", -1, 0)", x.cell(sheet, -1, 0), -2);
        }
        for (int i : noItem) {
            DOC.is("-11 ahead of -12: cell(0, " + i + ", 0)", x.cell(0, i, 0), -11);
        }
        for (int sort = 0; sort < 3; sort++) {
            x.sheet(0, sort, 3);
            for (int i : noItem) {
                DOC.is("cell(0, " + i + ", 0)", x.cell(0, i, 0), -12);
            }
            DOC.is("cell(0, 0, most)", x.cell(0, 0, MOST), 1);
            DOC.is("cell(0, 2, least)", x.cell(0, 2, LEAST), 1);
            x.sheet(1, sort, 0);
            DOC.is("no item at all", x.cell(1, 0, 0), -12);
        }
    }

    /** Whether a number of a sort is so: 0 it is, 1 it isn't. */
    private static void isSo(OtherSidesPump x, int sort, int v, int want) {
        Station.row(x, 0, sort, v);
        DOC.is("sort " + sort + ", " + v, x.tells(0, 0), want);
    }

    private static void lowestBits() {
        DOC.says(24, "(of bytes, shorts its lowest 8, 16 bits)");
        // one that is off in 127, another one in 128, a third never
        OtherSidesPump in127 = Station.ruled("28", "1", "1");
        in127.car(0, 0, 0);
        in127.set(3, 0, 99);
        OtherSidesPump in128 = Station.ruled("29", "1", "1");
        in128.car(0, 0, 0);
        in128.set(3, 0, 99);
        OtherSidesPump never = Station.with(1, 0, 1);
        for (int sort = 0; sort < 3; sort++) {
            isSo(in127, sort, 127, 0);
            isSo(in127, sort, 127 + 256, sort == BYTES ? 0 : 1);
            isSo(in127, sort, 127 - 256, sort == BYTES ? 0 : 1);
            isSo(in127, sort, 127 + 65536, sort == INTS ? 1 : 0);
            isSo(in127, sort, 127 - 65536, sort == INTS ? 1 : 0);
            isSo(in127, sort, 126, 1);
            // 128 is -128 as a byte
            isSo(in128, sort, 128, sort == BYTES ? 1 : 0);
            isSo(in128, sort, -128, 1);
            isSo(never, sort, -1, 0);
            isSo(never, sort, 255, sort == BYTES ? 0 : 1);
            isSo(never, sort, 65535, sort == INTS ? 1 : 0);
            isSo(never, sort, MOST, sort == INTS ? 1 : 0);
            isSo(never, sort, LEAST, 1);
        }
    }

    private static void copy() {
        DOC.says(25, "BAD: no such SHEET; -11; -13: they are of unlike sorts; -12 (also with n below 0).");
        OtherSidesPump x = new OtherSidesPump();
        x.sheet(0, SHORTS, 5);
        x.sheet(1, SHORTS, 3);
        x.sheet(2, INTS, 5);
        for (int sheet : NO_SHEET) {
            DOC.is("from " + sheet, x.copy(sheet, 0, 0, 0, 1), -2);
            DOC.is("to " + sheet, x.copy(0, 0, sheet, 0, 1), -2);
            DOC.is("BAD ahead of -11, from " + sheet, x.copy(sheet, 0, 3, 0, 1), -2);
            DOC.is("BAD ahead of -11, to " + sheet, x.copy(3, 0, sheet, 0, 1), -2);
            DOC.is("BAD ahead of -12", x.copy(0, 0, sheet, 0, -1), -2);
        }
        int[] sizes = {LEAST, -1, 0, 1, 6, MOST};
        for (int n : sizes) {
            DOC.is("-11 from a missing one, n " + n, x.copy(3, 0, 0, 0, n), -11);
            DOC.is("-11 to a missing one, n " + n, x.copy(0, 0, 3, 0, n), -11);
            DOC.is("-11 for both, n " + n, x.copy(3, -1, 3, -1, n), -11);
            DOC.is("-13 ahead of -12, n " + n, x.copy(0, 0, 2, 0, n), -13);
            DOC.is("-13 ahead of -12, from -1", x.copy(2, -1, 1, 0, n), -13);
        }
        // from, to, n of five to three
        int[][] outside = {{0, 0, -1}, {0, 0, LEAST}, {-1, 0, 0}, {-1, 0, 1}, {0, -1, 0}, {0, -1, 1}, {LEAST, 0, 1},
            {0, LEAST, 1}, {0, 0, 4}, {0, 1, 3}, {0, 3, 1}, {0, 4, 0}, {3, 0, 3}, {4, 0, 2}, {5, 0, 1}, {6, 0, 0},
            {MOST, 0, 1}, {0, MOST, 1}, {0, 0, MOST}, {1, 1, MOST}, {MOST, MOST, MOST}, {MOST, 0, 0}, {3, 2, LEAST}};
        for (int[] o : outside) {
            DOC.is("copy(0, " + o[0] + ", 1, " + o[1] + ", " + o[2] + ")", x.copy(0, o[0], 1, o[1], o[2]), -12);
        }
        DOC.is("onto itself, too far", x.copy(0, 0, 0, 1, 5), -12);
        x.sheet(3, SHORTS, 0);
        DOC.is("one of none", x.copy(3, 0, 0, 0, 1), -12);
        DOC.is("one to none", x.copy(0, 0, 3, 0, 1), -12);
        DOC.says(25, "n numbers of a SHEET, from item i on, come to another one's item j on (as they were): n.");
        int[][] within = {{0, 0, 0}, {5, 3, 0}, {0, 0, 3}, {2, 0, 3}, {4, 2, 1}, {0, 2, 1}, {4, 0, 1}, {3, 1, 2}};
        for (int[] w : within) {
            DOC.is("copy(0, " + w[0] + ", 1, " + w[1] + ", " + w[2] + ")", x.copy(0, w[0], 1, w[1], w[2]), w[2]);
        }
        DOC.is("none of none", x.copy(3, 0, 3, 0, 0), 0);
        x.sheet(0, BYTES, 40);
        x.sheet(1, BYTES, 40);
        DOC.is("all forty", x.copy(0, 0, 1, 0, 40), 40);
        DOC.is("forty and one", x.copy(0, 0, 1, 0, 41), -12);
    }

    /** Bikes, each in a lane of its own, that are off in these minutes. */
    private static OtherSidesPump offIn(int[] minutes) {
        OtherSidesPump x = new OtherSidesPump();
        for (int i = 0; i < minutes.length; i++) {
            x.car(2, 0, i);
            x.set(3, i, minutes[i] - 2);
        }
        return x;
    }

    private static void copied(int from, int i, int to, int j, int n, int... want) {
        for (int sort = 0; sort < 3; sort++) {
            OtherSidesPump x = offIn(want);
            Station.row(x, 0, sort, 11, 12, 13, 14);
            Station.row(x, 1, sort, 21, 22, 23, 24);
            DOC.is("copy of " + n + " from " + i + " to " + j, x.copy(from, i, to, j, n), n);
            DOC.is("what stands there", x.tells(to, 0), 0);
            if (from != to) {
                stays(sort, from, i, to, j, n);
            }
        }
    }

    /** What was copied stands where it stood, too. */
    private static void stays(int sort, int from, int i, int to, int j, int n) {
        OtherSidesPump x = offIn(new int[] {11, 12, 13, 14});
        Station.row(x, from, sort, 11, 12, 13, 14);
        Station.row(x, to, sort, 21, 22, 23, 24);
        x.copy(from, i, to, j, n);
        DOC.is("what it was copied from", x.tells(from, 0), 0);
    }

    private static void copiedAsTheyWere() {
        DOC.says(25, "come to another one's item j on (as they were): n.");
        copied(0, 0, 1, 0, 4, 11, 12, 13, 14);
        copied(0, 0, 1, 0, 0, 21, 22, 23, 24);
        copied(0, 0, 1, 0, 1, 11, 22, 23, 24);
        copied(0, 3, 1, 3, 1, 21, 22, 23, 14);
        copied(0, 2, 1, 1, 2, 21, 13, 14, 24);
        // onto itself: as they were ahead of the call, both ways
        copied(0, 0, 0, 1, 3, 11, 11, 12, 13);
        copied(0, 1, 0, 0, 3, 12, 13, 14, 14);
        copied(0, 0, 0, 0, 4, 11, 12, 13, 14);
        copied(0, 0, 0, 2, 2, 11, 12, 11, 12);
    }

    private static void refusalsOfCars() {
        DOC.says(26, "BAD: no such SHEET, sort, n; -13; -11; -12: what stood ahead came.");
        OtherSidesPump x = new OtherSidesPump();
        Station.row(x, 0, SHORTS, 0, 0, 0);
        int[] noSort = {LEAST, -1, 3, 4, MOST};
        int[] noCount = {LEAST, -1, 7, 8, MOST};
        for (int sheet : NO_SHEET) {
            DOC.is("cars(" + sheet + ", 1, 0, 1)", x.cars(sheet, SHORTS, 0, 1), -2);
        }
        for (int sort : noSort) {
            DOC.is("cars(0, " + sort + ", 0, 1)", x.cars(0, sort, 0, 1), -2);
            DOC.is("BAD ahead of -11: cars(1, " + sort + ", 0, 1)", x.cars(1, sort, 0, 1), -2);
            DOC.is("BAD ahead of -12: cars(0, " + sort + ", 9, 1)", x.cars(0, sort, 9, 1), -2);
        }
        for (int n : noCount) {
            DOC.is("cars(0, 1, 0, " + n + ")", x.cars(0, SHORTS, 0, n), -2);
            DOC.is("BAD ahead of -13: cars(0, 2, 0, " + n + ")", x.cars(0, INTS, 0, n), -2);
            DOC.is("BAD ahead of -11: cars(1, 1, 0, " + n + ")", x.cars(1, SHORTS, 0, n), -2);
            DOC.is("BAD ahead of -12: cars(0, 1, 9, " + n + ")", x.cars(0, SHORTS, 9, n), -2);
        }
        for (int n = 0; n <= 6; n++) {
            DOC.is("-13 for bytes, n " + n, x.cars(0, BYTES, 0, n), -13);
            DOC.is("-13 for ints, n " + n, x.cars(0, INTS, 0, n), -13);
            DOC.is("-13 ahead of -12, n " + n, x.cars(0, INTS, -1, n), -13);
            for (int sort = 0; sort < 3; sort++) {
                // a missing one is of no sort, so of no other one either
                DOC.is("-11, n " + n, x.cars(1, sort, 0, n), -11);
                DOC.is("-11 ahead of -12, n " + n, x.cars(1, sort, -1, n), -11);
            }
        }
        DOC.is("nobody came", x.count(0), 0);
    }

    private static void carIs(OtherSidesPump x, int car, int kind, int number, int lane) {
        int[] want = {number, 0, lane, 0, 0, kind};
        for (int what = 0; what < 6; what++) {
            DOC.is("told(" + car + ", " + what + ")", x.told(car, what), want[what]);
        }
    }

    private static void carsThatCame() {
        DOC.says(26, "CARS by a SHEET that is taken for one of a sort: from one on, three by three (as of car()), "
            + "n of them (0 .. 6): how many came (others are left out).");
        for (int sort = 0; sort < 3; sort++) {
            OtherSidesPump x = new OtherSidesPump();
            Station.row(x, 2, sort, 9, 5, 9, 3, 0, 0, 0, 1, 1, 1, 2, 2, 2, 3, 3, 3, 4, 4, 0);
            DOC.is("none", x.cars(2, sort, 1, 0), 0);
            DOC.is("none from anywhere", x.cars(2, sort, MOST, 0), 0);
            DOC.is("none from below", x.cars(2, sort, LEAST, 0), 0);
            DOC.is("nobody came", x.count(0), 0);
            DOC.is("one", x.cars(2, sort, 1, 1), 1);
            carIs(x, 0, 5, 9, 3);
            DOC.is("the last three", x.cars(2, sort, 16, 1), 1);
            carIs(x, 1, 4, 4, 0);
            DOC.is("six, of which four have room", x.cars(2, sort, 1, 6), 4);
            carIs(x, 2, 5, 9, 3);
            carIs(x, 5, 2, 2, 2);
            DOC.is("six, of which none has", x.cars(2, sort, 1, 6), 0);
            DOC.is("count(0)", x.count(0), 6);
        }
        OtherSidesPump six = new OtherSidesPump();
        six.sheet(0, INTS, 18);
        DOC.is("six", six.cars(0, INTS, 0, 6), 6);
        // those that are none such are left out, and the ones behind them come all the same
        OtherSidesPump x = new OtherSidesPump();
        Station.row(x, 0, SHORTS, 6, 0, 0, -1, 0, 0, 0, 10, 0, 0, -1, 0, 0, 0, 4, 5, 9, 3);
        DOC.is("one of six", x.cars(0, SHORTS, 0, 6), 1);
        carIs(x, 0, 5, 9, 3);
        Station.row(x, 0, SHORTS, 0, 0, -1);
        DOC.is("lane -1", x.cars(0, SHORTS, 0, 1), 0);
        // bytes are as they stand there: -1 is none
        Station.row(x, 0, BYTES, 255, 0, 0, 256, 256, 259);
        DOC.is("255 and 256 as bytes", x.cars(0, BYTES, 0, 2), 1);
        carIs(x, 1, 0, 0, 3);
        DOC.is("count(0)", x.count(0), 2);
    }

    private static void outsideOfCars() {
        DOC.says(26, "-12: what stood ahead came.");
        int[] from = {LEAST, LEAST + 2, -3, -2, -1, 6, 7, 8, 9, 40, MOST - 3, MOST - 2, MOST - 1, MOST};
        for (int f : from) {
            OtherSidesPump x = new OtherSidesPump();
            x.sheet(0, BYTES, 8);
            DOC.is("cars(0, 0, " + f + ", 1)", x.cars(0, BYTES, f, 1), -12);
            DOC.is("nobody came", x.count(0), 0);
        }
        // items 5 .. 7 are the last three there are
        OtherSidesPump last = new OtherSidesPump();
        last.sheet(0, BYTES, 8);
        DOC.is("cars(0, 0, 5, 1)", last.cars(0, BYTES, 5, 1), 1);
        for (int size = 3; size <= 9; size++) {
            OtherSidesPump x = new OtherSidesPump();
            x.sheet(0, INTS, size);
            x.cell(0, 0, 5);
            int whole = size / 3;
            DOC.is("4 of a sheet of " + size, x.cars(0, INTS, 0, 4), -12);
            DOC.is("so many came", x.count(0), whole);
            carIs(x, 0, 5, 0, 0);
        }
        // all that stood ahead came, but for those that are none such
        OtherSidesPump x = new OtherSidesPump();
        Station.row(x, 0, INTS, 1, 1, 1, 6, 0, 0, 2, 2, 2, 3);
        DOC.is("cars(0, 2, 0, 4)", x.cars(0, INTS, 0, 4), -12);
        DOC.is("two came", x.count(0), 2);
        carIs(x, 0, 1, 1, 1);
        carIs(x, 1, 2, 2, 2);
        // a place outside is one, though nobody would have room there
        OtherSidesPump full = Station.with(6, 0, 0);
        full.sheet(0, INTS, 3);
        DOC.is("when full", full.cars(0, INTS, 0, 2), -12);
        DOC.is("left out", full.cars(0, INTS, 0, 1), 0);
        OtherSidesPump none = new OtherSidesPump();
        none.sheet(0, INTS, 0);
        DOC.is("of an empty one", none.cars(0, INTS, 0, 1), -12);
        DOC.is("none of an empty one", none.cars(0, INTS, 0, 0), 0);
    }

    private static void taken() {
        DOC.says(27, "A CAR taken for one of KIND k (0 .. 5), or one under that one (also by others between): its NUMBER.");
        OtherSidesPump x = new OtherSidesPump();
        for (int kind = 0; kind < 6; kind++) {
            x.car(kind, 9 - kind, 0);
        }
        String[] under = {"100000", "110000", "101000", "110100", "101010", "100001"};
        for (int car = 0; car < 6; car++) {
            for (int k = 0; k < 6; k++) {
                DOC.is("taken(" + car + ", " + k + ")", x.taken(car, k), under[car].charAt(k) == '1' ? 9 - car : -13);
            }
        }
        x.set(0, 3, 0);
        DOC.is("a NUMBER of 0", x.taken(3, 0), 0);
        DOC.says(27, "BAD: k; -11: no such CAR; -13.");
        int[] none = {LEAST, -1, 6, 7, MOST};
        OtherSidesPump y = Station.with(2, 2, 0);
        for (int k : none) {
            DOC.is("taken(0, " + k + ")", y.taken(0, k), -2);
            DOC.is("BAD ahead of -11: taken(2, " + k + ")", y.taken(2, k), -2);
        }
        int[] nobody = {LEAST, -1, 2, 5, 6, MOST};
        for (int car : nobody) {
            for (int k = 0; k < 6; k++) {
                DOC.is("taken(" + car + ", " + k + ")", y.taken(car, k), -11);
            }
        }
        DOC.is("taken(1, 3)", y.taken(1, 3), -13);
        DOC.is("no cars at all", new OtherSidesPump().taken(0, 0), -11);
    }
}
