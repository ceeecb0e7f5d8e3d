/** The bounds of promises 16 to 22, sentence by sentence: tells, film, drawn, chance, image, back, count. */
public final class BoundsOfToldTest {
    private static final Sentences DOC = new Sentences();
    private static final int LEAST = Sentences.LEAST, MOST = Sentences.MOST;
    private static final int CAR = 0, BIKE = 2, TRAILER = 3, SCOOTER = 4, LORRY = 5;
    private static final String GOOD = "takes 7;forwards 0;minds 3;";

    public static void main(String[] args) {
        refusalsOfTells();
        whoIsNotSo();
        whatItCouldBe();
        eachOfSix();
        minutes();
        texts();
        film();
        drawn();
        chance();
        inSeeds();
        image();
        back();
        count();
        DOC.end();
    }

    private static void refusalsOfTells() {
        DOC.says(16, "BAD: SHEET, what, no such CAR; -11; BAD: its size isn't how many CARS there are.");
        OtherSidesPump x = Station.with(3, CAR, 0);
        int[] noSheet = {LEAST, -1, 4, 5, MOST};
        for (int sheet : noSheet) {
            DOC.is("tells(" + sheet + ", 0)", x.tells(sheet, 0), -2);
            DOC.is("tells(" + sheet + ", 2)", x.tells(sheet, 2), -2);
        }
        int[] none = {LEAST, -61, -10, -1, 2, 3, 9, 70, 71, 79, 100, 110, MOST};
        for (int what : none) {
            DOC.is("BAD ahead of -11: tells(0, " + what + ")", x.tells(0, what), -2);
        }
        for (int tens = 10; tens <= 60; tens += 10) {
            DOC.is("the first car", x.tells(0, tens), -11);
            DOC.is("the last car", x.tells(0, tens + 2), -11);
            DOC.is("no such car", x.tells(0, tens + 3), -2);
            DOC.is("no such car", x.tells(0, tens + 9), -2);
        }
        DOC.is("tells(0, 0) of a missing one", x.tells(0, 0), -11);
        DOC.is("tells(3, 1) of a missing one", x.tells(3, 1), -11);
        for (int n = 0; n <= 40; n += n < 5 ? 1 : 35) {
            x.sheet(0, 2, n);
            int[] whats = {0, 1, 10, 22, 60};
            for (int what : whats) {
                boolean isRefused = x.tells(0, what) == -2;
                DOC.is("BAD with size " + n + ", what " + what, isRefused ? 1 : 0, n == 3 ? 0 : 1);
            }
            DOC.is("no such car, size " + n, x.tells(0, 13), -2);
        }
        OtherSidesPump y = new OtherSidesPump();
        DOC.is("no cars, a missing sheet", y.tells(0, 0), -11);
        DOC.is("no such car, a missing sheet", y.tells(0, 10), -2);
        y.sheet(0, 0, 0);
        DOC.is("no cars, an empty sheet", y.tells(0, 0), 0);
        DOC.is("no cars, texts", y.tells(0, 1), 1);
        DOC.is("no such car, an empty sheet", y.tells(0, 10), -2);
        y.sheet(0, 0, 1);
        DOC.is("no cars, a sheet of one", y.tells(0, 0), -2);
    }

    private static void whoIsNotSo() {
        DOC.says(16, "TOLD: a SHEET tells OFF of each CAR (NONE likewise): who isn't so (bits);");
        OtherSidesPump x = Station.with(6, CAR, 0);
        x.sheet(0, 2, 6);
        DOC.is("nobody is", x.tells(0, 0), 63);
        x.film(0);
        DOC.is("all are", x.tells(0, 0), 0);
        for (int car = 0; car < 6; car++) {
            x.film(0);
            x.cell(0, car, -1);
            DOC.is("all but " + car, x.tells(0, 0), 1 << car);
            x.cell(0, car, x.times(car, 1) + 1);
            DOC.is("all but " + car + ", by a minute", x.tells(0, 0), 1 << car);
            x.cell(0, car, x.times(car, 1) - 1);
            DOC.is("all but " + car + ", by a minute", x.tells(0, 0), 1 << car);
        }
        // NONE is told by -1, in each sort, and by no other number
        OtherSidesPump y = Station.with(1, CAR, 1);
        for (int sort = 0; sort < 3; sort++) {
            Station.row(y, 1, sort, -1);
            DOC.is("NONE", y.tells(1, 0), 0);
            int[] other = {-2, 0, 1, 127, 200};
            for (int off : other) {
                Station.row(y, 1, sort, off);
                DOC.is("NONE by " + off, y.tells(1, 0), 1);
            }
        }
    }

    /** One that stands behind another one to the end of the day, whatever it is. */
    private static OtherSidesPump behindATrailer() {
        OtherSidesPump x = Station.ruled("40", "1", "1");
        x.car(TRAILER, 9, 0);
        x.set(4, 0, 9);
        x.set(3, 0, 99);
        x.car(CAR, 0, 0);
        x.set(3, 1, 99);
        x.film(0);
        return x;
    }

    private static void whatItCouldBe() {
        DOC.says(16, "KINDS (bits 0 .. 5), NUMBERS (bits 0 .. 9), LANES (bits 0 .. 3), PIES (bits 0 .. 9) of one,");
        OtherSidesPump x = behindATrailer();
        DOC.is("any kind", x.tells(0, 11), 63);
        DOC.is("any number", x.tells(0, 21), 1023);
        DOC.is("any pies", x.tells(0, 41), 1023);
        DOC.is("lanes in which it never is off: its own, and those that it doesn't fit", x.tells(0, 31), 1 + 2 + 8);
        Station.row(x, 0, 1, 0, 0);
        for (int tens = 10; tens <= 50; tens += 10) {
            DOC.is("nothing, " + tens, x.tells(0, tens + 1), 0);
        }
        OtherSidesPump anywhere = Station.with(1, SCOOTER, 2);
        anywhere.film(0);
        DOC.is("any lane", anywhere.tells(0, 30), 15);
        // the first and the last of each alone
        OtherSidesPump y = new OtherSidesPump();
        y.car(TRAILER, 4, 0);
        Station.row(y, 0, 1, 8);
        DOC.is("number 0", y.tells(0, 20), 1);
        Station.row(y, 0, 1, 17);
        DOC.is("number 9", y.tells(0, 20), 1 << 9);
        Station.row(y, 0, 1, 18);
        DOC.is("no number", y.tells(0, 20), 0);
        Station.row(y, 0, 1, 12);
        DOC.is("no pies", y.tells(0, 40), 1);
        Station.row(y, 0, 1, 30);
        DOC.is("9 pies", y.tells(0, 40), 1 << 9);
        Station.row(y, 0, 1, 32);
        DOC.is("not 10 pies", y.tells(0, 40), 0);
        Station.row(y, 0, 1, 4);
        DOC.is("a CAR", y.tells(0, 10), 1);
        Station.row(y, 0, 1, 14);
        DOC.is("a LORRY", y.tells(0, 10), 1 << 5);
        OtherSidesPump lanes = Station.ruled("10+lane", "1", "1");
        lanes.car(SCOOTER, 0, 1);
        lanes.car(CAR, 0, 3);
        lanes.set(1, 1, 1);
        Station.row(lanes, 0, 0, 5, 13);
        DOC.is("lanes 0 and 1, of which it takes half", lanes.tells(0, 30), 3);
        Station.row(lanes, 0, 0, 6, 13);
        DOC.is("lanes 2 and 3, where it is ahead of the other one", lanes.tells(0, 30), 4 + 8);
        // nobody may be otherwise, not the one alone of whom it is asked
        Station.row(lanes, 0, 0, 5, 12);
        DOC.is("the other one is otherwise", lanes.tells(0, 30), 0);
        int[] stays = {0, 0, 1, 0, 0, 4};
        for (int what = 0; what < 6; what++) {
            DOC.is("told(0, " + what + ") behind it all", lanes.told(0, what), stays[what]);
        }
    }

    private static OtherSidesPump six(int oneCar, int itsKind) {
        int[] kinds = {0, 2, 4, 1, 5, 3};
        OtherSidesPump x = new OtherSidesPump();
        for (int i = 0; i < 6; i++) {
            x.car(i == oneCar ? itsKind : kinds[i], i, i % 4);
            x.set(1, i, i % 2);
            x.set(3, i, 7 * i);
            x.set(4, i, 9 - i);
        }
        return x;
    }

    /** What could be of each of six, asked by setting it. */
    private static void eachOfSix() {
        DOC.says(16, "TOLD: who isn't so (what 0), TEXTS (1), KINDS of CAR what modulo 10 (10 ..), NUMBERS (20 ..), "
            + "LANES (30 ..), PIES (40 ..), MINUTES: how many (50 ..), the least (60 ..; NONE).");
        int[] feature = {0, 2, 4, 3};
        int[] highest = {9, 3, 9, 99};
        OtherSidesPump x = six(-1, 0);
        Due.text(x, "takes 5;forwards 1;minds 1;");
        x.film(0);
        DOC.is("tells(0, 1)", x.tells(0, 1), 1);
        x.cell(0, 2, 0);
        DOC.is("tells(0, 0)", x.tells(0, 0), 4);
        DOC.is("tells(0, 1)", x.tells(0, 1), 0);
        x.film(0);
        DOC.is("tells(0, 0)", x.tells(0, 0), 0);
        for (int car = 0; car < 6; car++) {
            int kinds = 0;
            for (int kind = 0; kind < 6; kind++) {
                OtherSidesPump y = six(car, kind);
                y.sheet(0, 1, 6);
                for (int i = 0; i < 6; i++) {
                    y.cell(0, i, x.times(i, 1));
                }
                kinds |= y.tells(0, 0) == 0 ? 1 << kind : 0;
            }
            DOC.is("kinds of " + car, x.tells(0, 10 + car), kinds);
            for (int f = 0; f < 4; f++) {
                asBySetting(car, feature[f], highest[f], 20 + 10 * f + car);
            }
        }
        for (int tens = 10; tens <= 60; tens += 10) {
            for (int car = 6; car < 10; car++) {
                DOC.is("tells(0, " + (tens + car) + ")", x.tells(0, tens + car), -2);
            }
        }
    }

    private static void asBySetting(int car, int feature, int highest, int what) {
        OtherSidesPump x = six(-1, 0);
        x.film(0);
        int bits = 0;
        int howMany = 0;
        int least = -1;
        int was = x.told(car, feature);
        for (int v = 0; v <= highest; v++) {
            x.set(feature, car, v);
            if (x.tells(0, 0) == 0) {
                bits |= 1 << v;
                least = howMany == 0 ? v : least;
                howMany++;
            }
        }
        x.set(feature, car, was);
        DOC.is("tells(0, " + what + ")", x.tells(0, what), feature == 3 ? howMany : bits);
        if (feature == 3) {
            DOC.is("tells(0, " + (what + 10) + ")", x.tells(0, what + 10), least);
        }
    }

    private static void minutes() {
        DOC.says(16, "MINUTES (of 0 .. 99: how many, the least) in which it could COME,");
        OtherSidesPump x = Station.with(1, CAR, 1);
        Station.row(x, 0, 0, -1);
        DOC.is("any minute", x.tells(0, 50), 100);
        DOC.is("the least", x.tells(0, 60), 0);
        x.set(1, 0, 1);
        DOC.is("no minute", x.tells(0, 50), 0);
        DOC.says(16, "MINUTES: how many (50 ..), the least (60 ..; NONE).");
        DOC.is("no least", x.tells(0, 60), -1);
        int[][] off = {{3, 0, -1}, {4, 1, 0}, {5, 1, 1}, {103, 1, 99}, {104, 0, -1}};
        for (int[] o : off) {
            Station.row(x, 0, 1, o[0]);
            DOC.is("off in " + o[0] + ": how many", x.tells(0, 50), o[1]);
            DOC.is("off in " + o[0] + ": the least", x.tells(0, 60), o[2]);
        }
        DOC.is("it comes when it came", x.told(0, 3), 0);
    }

    private static void texts() {
        DOC.says(16, "TEXTS (bits), were they THE RULE, by which nobody would be otherwise.");
        OtherSidesPump x = Station.with(1, CAR, 0);
        x.film(0);
        DOC.is("the one there is", x.tells(0, 1), 1);
        for (int i = 1; i < 6; i++) {
            Due.text(x, "takes " + (i % 2 == 0 ? 4 : 5) + ";forwards " + i + ";minds 2;");
        }
        DOC.is("0, 2, 4", x.tells(0, 1), 1 + 4 + 16);
        x.cell(0, 0, 5);
        DOC.is("1, 3, 5", x.tells(0, 1), 2 + 8 + 32);
        x.cell(0, 0, 6);
        DOC.is("none", x.tells(0, 1), 0);
        x.force(5);
        x.set(1, 0, 1);
        x.cell(0, 0, -1);
        DOC.is("all", x.tells(0, 1), 63);
        DOC.is("the rule stays", x.count(3), 5);
    }

    private static void film() {
        DOC.says(17, "A SHEET truly becomes OFF of each CAR (shorts): how many. BAD.");
        OtherSidesPump x = new OtherSidesPump();
        int[] none = {LEAST, -1, 4, 5, MOST};
        for (int sheet : none) {
            DOC.is("film(" + sheet + ")", x.film(sheet), -2);
        }
        for (int sheet = 0; sheet < 4; sheet++) {
            DOC.is("still missing", x.cell(sheet, 0, 0), -11);
            DOC.is("no cars: film(" + sheet + ")", x.film(sheet), 0);
            DOC.is("no items", x.cell(sheet, 0, 0), -12);
        }
        // whatever it was: of bytes, longer, missing
        for (int i = 0; i < 6; i++) {
            x.car(CAR, 0, i % 3);
        }
        x.sheet(0, 0, 40);
        x.sheet(1, -1, 0);
        x.sheet(2, 2, 6);
        x.sheet(3, 1, 6);
        for (int sheet = 0; sheet < 3; sheet++) {
            DOC.is("film(" + sheet + ")", x.film(sheet), 6);
            DOC.is("item 6", x.cell(sheet, 6, 0), -12);
            DOC.is("as it is", x.tells(sheet, 0), 0);
            DOC.is("shorts", x.copy(sheet, 0, 3, 0, 6), 6);
        }
        DOC.is("what it had came", x.tells(3, 0), 0);
        // 199 is no byte
        OtherSidesPump late = Station.ruled("40", "1", "1");
        late.car(TRAILER, 2, 0);
        late.set(4, 0, 9);
        late.set(3, 0, 99);
        late.film(0);
        DOC.is("199", late.tells(0, 0), 0);
        // it is what was off then, not what is off now
        late.set(0, 0, 3);
        DOC.is("otherwise now", late.tells(0, 0), 1);
        late.film(0);
        DOC.is("NONE", late.tells(0, 0), 0);
    }

    /** The lanes that a seed draws, worked out with longs. */
    private static void layDrawn(OtherSidesPump x, int seed) {
        long z = seed & 0xffffffffL;
        for (int car = 0; car < x.count(0); car++) {
            z = (z * 1103515245L + 12345L) & 0xffffffffL;
            x.set(2, car, (int) (z / 512 % 4));
        }
    }

    private static OtherSidesPump mixed(int howMany) {
        OtherSidesPump x = Station.ruled("5+lane*3", "lane<2", "1+lane*2");
        for (int i = 0; i < howMany; i++) {
            x.car(i, i, 0);
            x.set(1, i, i % 2);
        }
        return x;
    }

    private static void drawn() {
        DOC.says(18, "DRAWN by a SEED: LANES of CARS, in order, would be (z >>> 9) % 4, z being z * 1103515245 + 12345 "
            + "(an int; SEED at first) anew for each: BADNESS.");
        int[] seeds = {LEAST, LEAST + 1, -512, -1, 0, 1, 511, 512, MOST - 1, MOST};
        DOC.is("no cars", new OtherSidesPump().drawn(MOST), 0);
        DOC.says(18, "`int drawn(int seed)`: DRAWN.");
        for (int seed : seeds) {
            for (int howMany = 1; howMany <= 6; howMany++) {
                OtherSidesPump x = mixed(howMany);
                OtherSidesPump y = mixed(howMany);
                layDrawn(y, seed);
                DOC.is("drawn(" + seed + ") of " + howMany, x.drawn(seed), y.all(0));
                DOC.is("the last one is where it was", x.told(howMany - 1, 2), 0);
            }
        }
    }

    private static void chanceIs(OtherSidesPump x, int seed, int n, long above, long below) {
        DOC.is("chance(" + seed + ", " + n + ", 0)", x.chance(seed, n, 0), above);
        DOC.is("chance(" + seed + ", " + n + ", 1)", x.chance(seed, n, 1), below);
    }

    private static void chance() {
        DOC.says(19, "IN n seeds: part 0 above, 1 below the line, in lowest terms. NO: n, part.");
        long no = -4611686018427387904L;
        OtherSidesPump x = new OtherSidesPump();
        int[] noPart = {LEAST, -1, 2, 3, MOST};
        for (int part : noPart) {
            DOC.is("chance(0, 1, " + part + ")", x.chance(0, 1, part), no);
            DOC.is("chance(0, 20, " + part + ")", x.chance(0, 20, part), no);
            DOC.is("chance(0, 0, " + part + ")", x.chance(0, 0, part), no);
        }
        int[] none = {LEAST, -1, 0, 21, 22, MOST};
        for (int n : none) {
            DOC.is("chance(0, " + n + ", 0)", x.chance(0, n, 0), no);
            DOC.is("chance(0, " + n + ", 1)", x.chance(0, n, 1), no);
        }
        // 1 of 1 and 20 of 20 are 1 of 1; 0 of any is 0 of 1
        chanceIs(x, 0, 1, 1, 1);
        chanceIs(x, 0, 20, 1, 1);
        OtherSidesPump never = Station.ruled("1", "1", "9*(0<lane)");
        for (int i = 0; i < 6; i++) {
            never.car(CAR, 0, 0);
            never.set(1, i, 1);
        }
        DOC.is("as good as can be", never.all(0), 0);
        int good = 0;
        for (int i = 0; i < 20; i++) {
            good += never.drawn(i) == 0 ? 1 : 0;
        }
        DOC.is("no seed is as good", good, 0);
        chanceIs(never, 0, 1, 0, 1);
        chanceIs(never, 0, 20, 0, 1);
        DOC.is("a car's lane stays", never.told(5, 2), 0);
    }

    private static long commonDivisor(long a, long b) {
        return b == 0 ? a : commonDivisor(b, a % b);
    }

    private static void inSeeds() {
        DOC.says(19, "IN n seeds (1 .. 20), SEED and each 1 more (an int): of these those by which it is no more than now.");
        int[] seeds = {LEAST, -10, 0, 7, MOST - 10, MOST};
        int reduced = 0;
        int like = 0;
        for (int seed : seeds) {
            // of two bikes that come together one waits just if they are in one lane
            OtherSidesPump x = Station.with(2, BIKE, 0);
            x.set(2, 1, 1);
            for (int n = 1; n <= 20; n++) {
                int good = 0;
                for (int i = 0; i < n; i++) {
                    OtherSidesPump y = Station.with(2, BIKE, 0);
                    // the seed behind the highest int is the least one
                    layDrawn(y, (int) ((long) seed + i));
                    good += y.told(0, 2) != y.told(1, 2) ? 1 : 0;
                }
                long by = commonDivisor(good, n);
                reduced += by > 1 && good > 0 && good < n ? 1 : 0;
                chanceIs(x, seed, n, good / by, n / by);
            }
            // no more than now: as bad as now is enough, and all are that
            x.set(2, 1, 0);
            chanceIs(x, seed, 20, 1, 1);
            like++;
        }
        DOC.is("some had terms that weren't lowest", reduced > 10 ? 1 : 0, 1);
        DOC.is("each seed is asked", like, seeds.length);
    }

    private static void image() {
        DOC.says(20, "AN IMAGE is kept: how many CARS.");
        OtherSidesPump x = new OtherSidesPump();
        for (int i = 0; i <= 6; i++) {
            DOC.is("image() with " + i, x.image(), i);
            DOC.is("it is the one of now", x.back(), i);
            DOC.is("count(0)", x.count(0), i);
            x.car(CAR, 0, 0);
        }
        DOC.says(20, "AN IMAGE keeps NUMBERS, CAPS, LANES, MINUTES in which they COME, PIES of CARS, THE RULE "
            + "(CARS that came since go).");
        OtherSidesPump y = new OtherSidesPump();
        Station.fillTexts(y);
        int[] highest = {9, 1, 3, 99, 9};
        for (int turn = 0; turn < 2; turn++) {
            OtherSidesPump z = Station.with(6, LORRY, 0);
            Due.text(z, GOOD);
            for (int what = 0; what < 5; what++) {
                z.set(what, 5, turn * highest[what]);
            }
            z.force(turn);
            z.image();
            for (int what = 0; what < 5; what++) {
                z.set(what, 5, (1 - turn) * highest[what]);
            }
            z.force(1 - turn);
            DOC.is("back()", z.back(), 6);
            for (int what = 0; what < 5; what++) {
                DOC.is("told(5, " + what + ")", z.told(5, what), turn * highest[what]);
            }
            DOC.is("the rule", z.count(3), turn);
        }
        // cars that came since go, however many; texts, the tape, sheets are none of it
        y.image();
        for (int i = 0; i < 6; i++) {
            y.car(i, i, 0);
        }
        y.force(5);
        Due.feed(y, "tape");
        y.sheet(3, 0, 5);
        DOC.is("back to no cars", y.back(), 0);
        int[] counts = {0, 6, 4, 0};
        for (int what = 0; what < 4; what++) {
            DOC.is("count(" + what + ")", y.count(what), counts[what]);
        }
        DOC.is("nobody is there", y.told(0, 0), -2);
        DOC.is("the sheet is", y.cell(3, 4, 0), 1);
        DOC.is("and has no more", y.cell(3, 5, 0), -12);
        DOC.is("the first comes anew", y.car(2, 8, 1), 0);
        DOC.is("of another kind", y.told(0, 5), 2);
    }

    private static void back() {
        DOC.says(21, "All that it keeps is as in THE IMAGE: how many CARS. STATE: there is none.");
        OtherSidesPump x = new OtherSidesPump();
        DOC.is("none at first", x.back(), -3);
        x.car(CAR, 5, 2);
        DOC.is("none still", x.back(), -3);
        DOC.is("the car stays", x.told(0, 0), 5);
        DOC.is("count(0)", x.count(0), 1);
        x.image();
        x.set(0, 0, 6);
        for (int i = 0; i < 3; i++) {
            DOC.is("back, again and again", x.back(), 1);
            DOC.is("told(0, 0)", x.told(0, 0), 5);
            x.set(0, 0, i);
        }
        // the last image is the one
        x.set(0, 0, 7);
        x.image();
        x.set(0, 0, 8);
        x.back();
        DOC.is("told(0, 0)", x.told(0, 0), 7);
        // an image of nobody is one
        OtherSidesPump y = new OtherSidesPump();
        y.image();
        DOC.is("of nobody", y.back(), 0);
    }

    private static void count() {
        DOC.says(22, "How many: 0 CARS, 1 TEXTS, 2 bytes of THE TAPE, 3 THE RULE. BAD.");
        OtherSidesPump x = new OtherSidesPump();
        int[] none = {LEAST, -1, 4, 5, MOST};
        int[] first = {0, 1, 0, 0};
        int[] last = {6, 6, 160, 5};
        for (int turn = 0; turn < 2; turn++) {
            for (int what = 0; what < 4; what++) {
                DOC.is("count(" + what + ")", x.count(what), turn == 0 ? first[what] : last[what]);
            }
            for (int what : none) {
                DOC.is("count(" + what + ")", x.count(what), -2);
            }
            for (int i = 0; i < 7; i++) {
                x.car(CAR, 0, 0);
            }
            Station.fillTexts(x);
            Due.feed(x, " ".repeat(161));
            x.force(5);
        }
    }
}
