/** Promises 16 to 22: tells, film, drawn, chance, image, back, count. */
public final class ToldTest {
    private static final Due DUE = new Due();

    public static void main(String[] args) {
        whoIsNotSo();
        whatItCouldBe();
        minutes();
        texts();
        refusalsOfTells();
        film();
        drawn();
        chance();
        imageAndBack();
        count();
        DUE.end();
    }

    private static void tell(OtherSidesPump x, int sheet, int sort, int... times) {
        x.sheet(sheet, sort, times.length);
        for (int i = 0; i < times.length; i++) {
            x.cell(sheet, i, times[i]);
        }
    }

    private static void whoIsNotSo() {
        OtherSidesPump x = new OtherSidesPump();
        x.car(0, 0, 0);
        x.car(0, 0, 1);
        x.car(2, 0, 2);
        for (int sort = 0; sort < 3; sort++) {
            tell(x, sort, sort, 4, -1, 2);
            DUE.is(16, "all are so", x.tells(sort, 0), 0);
            tell(x, sort, sort, 5, -1, 3);
            DUE.is(16, "0 and 2 aren't", x.tells(sort, 0), 5);
            tell(x, sort, sort, 4, 4, 2);
            DUE.is(16, "1 isn't", x.tells(sort, 0), 2);
        }
        // bytes can't tell 150
        x.set(3, 0, 99);
        x.force(Due.text(x, "takes 40; forwards 1; minds 1;"));
        x.set(4, 0, 9);
        tell(x, 0, 0, 148, -1, 20);
        DUE.is(16, "a byte", x.tells(0, 0), 1);
        tell(x, 0, 1, 148, -1, 20);
        DUE.is(16, "a short", x.tells(0, 0), 0);
    }

    private static void whatItCouldBe() {
        OtherSidesPump x = new OtherSidesPump();
        x.car(0, 3, 2);
        x.car(2, 5, 0);
        tell(x, 1, 2, 4, 2);
        DUE.is(16, "kinds", x.tells(1, 10), 1);
        DUE.is(16, "kinds", x.tells(1, 11), 4 + 16);
        DUE.is(16, "numbers", x.tells(1, 20), 1023);
        DUE.is(16, "lanes: not where it would hold up the bike, or not fit", x.tells(1, 30), 4);
        DUE.is(16, "lanes", x.tells(1, 31), 1 + 2 + 8);
        DUE.is(16, "pies", x.tells(1, 40), 1);
        DUE.is(16, "pies", x.tells(1, 41), 3);
        // what was not so can be read back as well
        tell(x, 1, 2, 8, 2);
        DUE.is(16, "who isn't so", x.tells(1, 0), 1);
        DUE.is(16, "kinds", x.tells(1, 10), 2);
        DUE.is(16, "pies", x.tells(1, 40), 16);
        DUE.is(16, "no kind of 1 helps 0", x.tells(1, 11), 0);
        tell(x, 1, 2, 11, 2);
        DUE.is(16, "kinds: a trailer", x.tells(1, 10), 8);
        tell(x, 1, 2, 14, 2);
        DUE.is(16, "kinds: a lorry", x.tells(1, 10), 32);
        x.set(0, 0, 1);
        x.car(3, 0, 2);
        x.set(3, 2, 9);
        tell(x, 1, 2, 4, 2, 20);
        DUE.is(16, "numbers of a trailer", x.tells(1, 22), 1 << 3);
        DUE.is(16, "kind, number stay", x.told(2, 5) * 10 + x.told(2, 0), 30);
    }

    private static void minutes() {
        OtherSidesPump x = new OtherSidesPump();
        x.car(0, 0, 0);
        x.car(2, 0, 0);
        tell(x, 3, 1, 4, 4);
        // the bike is finished behind the car: if it comes in 0, 1 or 2
        DUE.is(16, "minutes", x.tells(3, 51), 3);
        DUE.is(16, "the least", x.tells(3, 61), 0);
        tell(x, 3, 1, 4, 13);
        DUE.is(16, "minutes", x.tells(3, 51), 1);
        DUE.is(16, "the least", x.tells(3, 61), 11);
        tell(x, 3, 1, 4, 3);
        DUE.is(16, "no minutes", x.tells(3, 51), 0);
        DUE.is(16, "no least", x.tells(3, 61), -1);
        tell(x, 3, 1, 103, 2);
        DUE.is(16, "the last minute", x.tells(3, 50), 1);
        DUE.is(16, "the last minute", x.tells(3, 60), 99);
        tell(x, 3, 1, 104, 2);
        DUE.is(16, "behind it", x.tells(3, 60), -1);
        DUE.is(16, "the minute stays", x.told(0, 3), 0);
    }

    private static void texts() {
        OtherSidesPump x = new OtherSidesPump();
        x.car(0, 0, 0);
        Due.text(x, "takes 5; forwards 1; minds 1;");
        Due.text(x, "takes 4; forwards 0; minds 9;");
        Due.text(x, "takes 4 + pie; forwards 0; minds 9;");
        x.force(1);
        tell(x, 0, 0, 4);
        DUE.is(16, "texts", x.tells(0, 1), 1 + 4 + 8);
        x.set(4, 0, 1);
        DUE.is(16, "texts", x.tells(0, 1), 0);
        tell(x, 0, 0, 6);
        DUE.is(16, "texts", x.tells(0, 1), 2 + 8);
        DUE.is(16, "the rule stays", x.count(3), 1);
    }

    private static void refusalsOfTells() {
        OtherSidesPump x = new OtherSidesPump();
        x.car(0, 0, 0);
        x.car(0, 0, 0);
        int[] sheets = {Integer.MIN_VALUE, -1, 4, Integer.MAX_VALUE};
        for (int sheet : sheets) {
            DUE.is(16, "tells(" + sheet + ", 0)", x.tells(sheet, 0), -2);
            DUE.is(17, "film(" + sheet + ")", x.film(sheet), -2);
        }
        int[] whats = {Integer.MIN_VALUE, -10, -1, 2, 9, 70, 71, 100, Integer.MAX_VALUE};
        for (int what : whats) {
            DUE.is(16, "tells(0, " + what + ")", x.tells(0, what), -2);
        }
        for (int tens = 10; tens <= 60; tens += 10) {
            for (int car = 0; car < 10; car++) {
                DUE.is(16, "tells of a missing one", x.tells(0, tens + car), car < 2 ? -11 : -2);
            }
        }
        DUE.is(16, "tells of a missing one", x.tells(0, 0), -11);
        DUE.is(16, "tells of a missing one", x.tells(0, 1), -11);
        for (int n = 0; n <= 3; n++) {
            x.sheet(0, 2, n);
            DUE.is(16, "its size is " + n, x.tells(0, 0), n == 2 ? 3 : -2);
            DUE.is(16, "its size is " + n, x.tells(0, 10), n == 2 ? 0 : -2);
        }
    }

    private static void film() {
        OtherSidesPump x = new OtherSidesPump();
        x.car(0, 0, 0);
        x.car(0, 0, 1);
        x.set(3, 0, 99);
        x.force(Due.text(x, "takes 40; forwards 1; minds 1;"));
        x.sheet(2, 0, 40);
        DUE.is(17, "film(2)", x.film(2), 2);
        DUE.is(17, "all are so", x.tells(2, 0), 0);
        DUE.is(17, "its size", x.cell(2, 2, 0), -12);
        x.sheet(3, 1, 2);
        DUE.is(17, "it is of shorts", x.copy(2, 0, 3, 0, 2), 2);
        x.sheet(3, 2, 2);
        DUE.is(17, "it isn't of ints", x.copy(2, 0, 3, 0, 2), -13);
        // 139 is kept whole, and isn't told by bytes
        tell(x, 3, 1, 139, -1);
        DUE.is(17, "139", x.tells(3, 0), 0);
        OtherSidesPump y = new OtherSidesPump();
        DUE.is(17, "no cars", y.film(0), 0);
        DUE.is(17, "no cars, but a sheet", y.cell(0, 0, 0), -12);
        DUE.is(17, "other sheets", y.cell(1, 0, 0), -11);
    }

    private static void drawn() {
        OtherSidesPump x = new OtherSidesPump();
        int[] seeds = {0, 1, 5, -1, -77, Integer.MIN_VALUE, Integer.MAX_VALUE};
        for (int seed : seeds) {
            DUE.is(18, "no cars", x.drawn(seed), 0);
        }
        for (int i = 0; i < 5; i++) {
            x.car(i, i, 0);
        }
        OtherSidesPump y = new OtherSidesPump();
        for (int i = 0; i < 5; i++) {
            y.car(i, i, 0);
        }
        for (int seed : seeds) {
            int z = seed;
            for (int i = 0; i < 5; i++) {
                z = z * 1103515245 + 12345;
                y.set(2, i, (z >>> 9) % 4);
            }
            DUE.is(18, "drawn(" + seed + ")", x.drawn(seed), y.all(0));
        }
        for (int i = 0; i < 5; i++) {
            DUE.is(18, "lanes stay", x.told(i, 2), 0);
        }
    }

    private static OtherSidesPump threeInLaneZero() {
        OtherSidesPump x = new OtherSidesPump();
        for (int i = 0; i < 3; i++) {
            x.car(2 * i, i, 0);
            x.set(3, i, i);
        }
        return x;
    }

    private static void chance() {
        int[] seeds = {3, -4, Integer.MAX_VALUE - 5};
        for (int seed : seeds) {
            for (int n = 1; n <= 20; n++) {
                OtherSidesPump x = threeInLaneZero();
                int good = 0;
                for (int i = 0; i < n; i++) {
                    good += x.drawn(seed + i) <= x.all(0) ? 1 : 0;
                }
                long above = x.chance(seed, n, 0);
                long below = x.chance(seed, n, 1);
                DUE.is(19, "chance(" + seed + ", " + n + ")", above * n, below * good);
                boolean lowest = java.math.BigInteger.valueOf(above).gcd(java.math.BigInteger.valueOf(below))
                    .equals(java.math.BigInteger.ONE);
                DUE.holds("lowest terms of chance(" + seed + ", " + n + ")", lowest && below > 0);
            }
        }
        // where nobody minds, all is no worse anywhere
        OtherSidesPump x = threeInLaneZero();
        x.force(Due.text(x, "takes 1; forwards 1; minds 0;"));
        DUE.is(19, "always", x.chance(0, 20, 0), 1);
        DUE.is(19, "always", x.chance(0, 20, 1), 1);
        long no = -4611686018427387904L;
        int[] wrong = {Integer.MIN_VALUE, -1, 0, 21, Integer.MAX_VALUE};
        for (int n : wrong) {
            DUE.is(19, "chance(0, " + n + ", 0)", x.chance(0, n, 0), no);
        }
        int[] parts = {Integer.MIN_VALUE, -1, 2, Integer.MAX_VALUE};
        for (int part : parts) {
            DUE.is(19, "chance(0, 1, " + part + ")", x.chance(0, 1, part), no);
        }
    }

    private static void imageAndBack() {
        OtherSidesPump x = new OtherSidesPump();
        DUE.is(21, "back() without one", x.back(), -3);
        x.car(1, 2, 3);
        x.car(4, 5, 0);
        int[] v = {7, 1, 2, 44, 8};
        for (int what = 0; what < 5; what++) {
            x.set(what, 1, v[what]);
        }
        Due.text(x, "takes 9; forwards 1; minds 1;");
        x.force(1);
        DUE.is(20, "image()", x.image(), 2);
        DUE.is(20, "cars stay", x.count(0), 2);
        for (int turn = 0; turn < 2; turn++) {
            for (int what = 0; what < 5; what++) {
                x.set(what, 0, 1);
                x.set(what, 1, 0);
            }
            x.force(0);
            DUE.is(20, "text", Due.text(x, "takes 8; forwards 1; minds 1;"), turn + 2);
            Due.feed(x, "tape");
            x.sheet(0, 2, 3);
            x.car(3, 3, 3);
            x.car(3, 3, 3);
            DUE.is(21, "back()", x.back(), 2);
            int[] first = {2, 0, 3, 0, 0, 1};
            int[] second = {7, 1, 2, 44, 8, 4};
            for (int what = 0; what < 6; what++) {
                DUE.is(21, "told(0, " + what + ")", x.told(0, what), first[what]);
                DUE.is(21, "told(1, " + what + ")", x.told(1, what), second[what]);
            }
            DUE.is(21, "those that came go", x.told(2, 0), -2);
            int[] counts = {2, turn + 3, 4, 1};
            for (int what = 0; what < counts.length; what++) {
                DUE.is(21, "count(" + what + ")", x.count(what), counts[what]);
            }
            DUE.is(21, "sheets stay", x.cell(0, 2, 0), 1);
            x.text();
        }
        // one that comes again has nothing of the one that went
        x.car(0, 0, 0);
        x.set(4, 2, 9);
        x.set(3, 2, 9);
        x.set(1, 2, 1);
        x.back();
        DUE.is(21, "car", x.car(5, 6, 1), 2);
        int[] fresh = {6, 0, 1, 0, 0, 5};
        for (int what = 0; what < 6; what++) {
            DUE.is(21, "told(2, " + what + ")", x.told(2, what), fresh[what]);
        }
        // a later image stands for the earlier one
        DUE.is(20, "image()", x.image(), 3);
        x.car(0, 0, 0);
        DUE.is(21, "back()", x.back(), 3);
        OtherSidesPump y = new OtherSidesPump();
        DUE.is(20, "image of nothing", y.image(), 0);
        y.car(0, 0, 0);
        DUE.is(21, "back to nothing", y.back(), 0);
        DUE.is(21, "count(0)", y.count(0), 0);
    }

    private static void count() {
        OtherSidesPump x = new OtherSidesPump();
        x.car(0, 0, 0);
        x.car(0, 0, 0);
        Due.text(x, "takes 9; forwards 1; minds 1;");
        Due.text(x, "takes 9; forwards 1; minds 1;");
        x.force(2);
        Due.feed(x, "1234567");
        int[] want = {2, 3, 7, 2};
        for (int what = 0; what < want.length; what++) {
            DUE.is(22, "count(" + what + ")", x.count(what), want[what]);
        }
        int[] wrong = {Integer.MIN_VALUE, -1, 4, Integer.MAX_VALUE};
        for (int what : wrong) {
            DUE.is(22, "count(" + what + ")", x.count(what), -2);
        }
    }
}
