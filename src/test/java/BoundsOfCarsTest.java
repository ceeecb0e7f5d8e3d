/** The bounds of promises 1 to 4, sentence by sentence: a new object, set, car, told. */
public final class BoundsOfCarsTest {
    private static final Sentences DOC = new Sentences();
    private static final int LEAST = Sentences.LEAST, MOST = Sentences.MOST;
    private static final int NUMBER = 0, CAP = 1, LANE = 2, COMES = 3, PIES = 4, KIND = 5;
    private static final int FITS = 6, LONG = 7, DRAWS = 8, TAKES = 9, MINDS = 10;

    public static void main(String[] args) {
        newObject();
        howManyCars();
        kinds();
        features();
        set();
        car();
        told();
        takesOfKinds();
        fitsOfKinds();
        drawsOfKinds();
        longOnes();
        boundsOfTheRule();
        names();
        theLastCall();
        DOC.end();
    }

    private static void newObject() {
        OtherSidesPump x = new OtherSidesPump();
        DOC.says(1, "A new object `OtherSidesPump()`: No CARS.");
        DOC.is("count(0)", x.count(0), 0);
        DOC.is("told(0, 0)", x.told(0, 0), -2);
        DOC.is("times(0, 0)", x.times(0, 0), -2);
        DOC.is("taken(0, 0)", x.taken(0, 0), -11);
        for (int lane = 0; lane < 4; lane++) {
            DOC.is("pump back", x.pump(lane, 0, 0), -1);
            DOC.is("pump front", x.pump(lane, 199, 1), -1);
        }
        DOC.is("car: the first one", x.car(0, 0, 0), 0);
        DOC.says(1, "NONE is -1; NO, where a long is answered, -4611686018427387904.");
        DOC.is("NONE", OtherSidesPump.NONE, -1);
        DOC.is("NO", OtherSidesPump.NO, -4611686018427387904L);
        DOC.says(1, "BAD (-2: a number is none such or not as told), STATE (-3), FULL (-4)");
        DOC.is("BAD", OtherSidesPump.BAD, -2);
        DOC.is("STATE", OtherSidesPump.STATE, -3);
        DOC.is("FULL", OtherSidesPump.FULL, -4);
    }

    private static void howManyCars() {
        DOC.says(3, "CARS (6 at most, numbered from 0)");
        OtherSidesPump x = new OtherSidesPump();
        for (int i = 0; i < 6; i++) {
            DOC.is("told of the next one", x.told(i, NUMBER), -2);
            DOC.is("car", x.car(0, i, 0), i);
            DOC.is("told of it", x.told(i, NUMBER), i);
            DOC.is("count(0)", x.count(0), i + 1);
        }
        DOC.is("car: a seventh", x.car(0, 0, 0), -4);
        DOC.is("car: an eighth", x.car(5, 9, 3), -4);
        DOC.is("count(0)", x.count(0), 6);
        DOC.is("told(6, 0)", x.told(6, NUMBER), -2);
        DOC.is("the last one stays", x.told(5, NUMBER), 5);
    }

    private static void kinds() {
        DOC.says(3, "CARS (6 at most, numbered from 0) have a KIND: 0 CAR, 1 VAN under CAR, 2 BIKE under CAR, 3 TRAILER under VAN, 4 SCOOTER under BIKE, "
            + "5 LORRY under CAR;");
        OtherSidesPump x = new OtherSidesPump();
        int[] none = {LEAST, -1, 6, 7, MOST};
        for (int kind : none) {
            DOC.is("car(" + kind + ", 0, 0)", x.car(kind, 0, 0), -2);
        }
        DOC.is("nobody came", x.count(0), 0);
        for (int kind = 0; kind < 6; kind++) {
            DOC.is("car(" + kind + ", 0, 0)", x.car(kind, 0, 0), kind);
            DOC.is("told(" + kind + ", 5)", x.told(kind, KIND), kind);
        }
    }

    /** A feature's least and highest values are taken, those next to them aren't, and it stays as it was then. */
    private static void settable(int what, int highest) {
        OtherSidesPump x = new OtherSidesPump();
        x.car(0, 0, 0);
        int[] none = {LEAST, -1, highest + 1, highest + 2, 256, MOST};
        int was = 0;
        for (int v = 0; v <= highest; v++) {
            DOC.is("set(" + what + ", 0, " + v + ")", x.set(what, 0, v), was);
            DOC.is("told after it", x.told(0, what), v);
            was = v;
        }
        for (int v : none) {
            DOC.is("set(" + what + ", 0, " + v + ")", x.set(what, 0, v), -2);
            DOC.is("told after it", x.told(0, what), highest);
        }
        DOC.is("set(" + what + ", 0, 0)", x.set(what, 0, 0), highest);
        for (int v : none) {
            DOC.is("set(" + what + ", 0, " + v + ")", x.set(what, 0, v), -2);
            DOC.is("told after it", x.told(0, what), 0);
        }
    }

    private static void isZeroAsOneComes(int what) {
        OtherSidesPump x = new OtherSidesPump();
        x.image();
        x.car(5, 9, 3);
        x.set(what, 0, 1);
        x.back();
        // the place was another one's before
        x.car(5, 9, 3);
        DOC.is("told(0, " + what + ") as one comes", x.told(0, what), 0);
    }

    private static void features() {
        DOC.says(2, "a NUMBER (0 .. 9)");
        settable(NUMBER, 9);
        OtherSidesPump x = new OtherSidesPump();
        int[] noNumber = {LEAST, -1, 10, 11, MOST};
        for (int number : noNumber) {
            DOC.is("car(0, " + number + ", 0)", x.car(0, number, 0), -2);
        }
        DOC.is("car(0, 0, 0)", x.car(0, 0, 0), 0);
        DOC.is("car(0, 9, 0)", x.car(0, 9, 0), 1);
        DOC.is("told(1, 0)", x.told(1, NUMBER), 9);
        DOC.says(2, "a CAP (0 left, 1 right; 0 as one comes)");
        settable(CAP, 1);
        isZeroAsOneComes(CAP);
        DOC.says(2, "0 as one comes), a LANE, the MINUTE");
        settable(LANE, 3);
        // a car's lane is the one that was said as it came
        for (int lane = 0; lane < 4; lane++) {
            OtherSidesPump y = new OtherSidesPump();
            y.car(0, 0, lane);
            DOC.is("told(0, 2)", y.told(0, LANE), lane);
            DOC.is("set(2, 0, 3 - lane)", y.set(LANE, 0, 3 - lane), lane);
            DOC.is("told(0, 2)", y.told(0, LANE), 3 - lane);
        }
        DOC.says(2, "3, each with a BACK pump and a FRONT pump.");
        int[] noLane = {LEAST, -1, 4, 5, MOST};
        for (int lane : noLane) {
            DOC.is("car(0, 0, " + lane + ")", x.car(0, 0, lane), -2);
            DOC.is("pump(" + lane + ", 0, 0)", x.pump(lane, 0, 0), -2);
        }
        DOC.is("car(4, 0, 3)", x.car(4, 0, 3), 2);
        DOC.is("told(2, 2)", x.told(2, LANE), 3);
        DOC.is("pump(3, 0, 1)", x.pump(3, 0, 1), 2);
        DOC.is("pump(0, 0, 0)", x.pump(0, 0, 0), 1);
        DOC.is("pump(0, 0, 1)", x.pump(0, 0, 1), 0);
        DOC.says(2, "the MINUTE in which it COMES (0 .. 99; 0 as one comes)");
        settable(COMES, 99);
        isZeroAsOneComes(COMES);
        DOC.says(2, "PIES (0 .. 9; 0 as one comes)");
        settable(PIES, 9);
        isZeroAsOneComes(PIES);
    }

    private static void set() {
        DOC.says(2, "NUMBER (what 0), CAP (1), LANE (2), the MINUTE in which it COMES (3), PIES (4) of a CAR "
            + "becomes v: what it was. BAD.");
        OtherSidesPump x = new OtherSidesPump();
        for (int what = 0; what < 5; what++) {
            DOC.is("set of nobody", x.set(what, 0, 0), -2);
        }
        x.car(1, 2, 3);
        x.car(4, 5, 1);
        int[] none = {LEAST, -1, 5, 6, MOST};
        for (int what : none) {
            DOC.is("set(" + what + ", 0, 0)", x.set(what, 0, 0), -2);
        }
        int[] nobody = {LEAST, -1, 2, 5, 6, MOST};
        for (int of : nobody) {
            DOC.is("set(0, " + of + ", 0)", x.set(NUMBER, of, 0), -2);
            DOC.is("set(4, " + of + ", 0)", x.set(PIES, of, 0), -2);
        }
        int[][] stays = {{2, 0, 3, 0, 0, 1}, {5, 0, 1, 0, 0, 4}};
        for (int car = 0; car < 2; car++) {
            for (int what = 0; what < 6; what++) {
                DOC.is("told(" + car + ", " + what + ") behind these", x.told(car, what), stays[car][what]);
            }
        }
        DOC.is("set of the last one", x.set(NUMBER, 1, 6), 5);
        DOC.is("of no other one", x.told(0, NUMBER), 2);
        DOC.is("nothing else of it", x.told(1, PIES) + x.told(1, CAP) + x.told(1, COMES), 0);
    }

    private static void car() {
        DOC.says(3, "A CAR: its number. BAD; FULL.");
        OtherSidesPump x = Station.with(5, 0, 0);
        int[][] bad = {{6, 0, 0}, {-1, 0, 0}, {0, 10, 0}, {0, -1, 0}, {0, 0, 4}, {0, 0, -1}, {6, 10, 4}};
        for (int[] b : bad) {
            DOC.is("car that is none", x.car(b[0], b[1], b[2]), -2);
        }
        DOC.is("nobody came", x.count(0), 5);
        DOC.is("car(5, 9, 3)", x.car(5, 9, 3), 5);
        for (int[] b : bad) {
            DOC.is("BAD ahead of FULL", x.car(b[0], b[1], b[2]), -2);
        }
        DOC.is("FULL alone", x.car(5, 9, 3), -4);
        DOC.is("count(0)", x.count(0), 6);
    }

    private static void told() {
        DOC.says(4, "What 0 .. 4 as of set(), 5 KIND, 6 whether it FITS its LANE (1, 0), 7 whether it is LONG, "
            + "8 whether it DRAWS FORWARD, 9 TAKES, 10 minds "
            + "(8 to 10 in the MINUTE in which it COMES, with nobody ahead). BAD.");
        OtherSidesPump x = new OtherSidesPump();
        for (int what = 0; what <= 10; what++) {
            DOC.is("told of nobody", x.told(0, what), -2);
        }
        x.car(5, 7, 1);
        x.set(CAP, 0, 1);
        x.set(COMES, 0, 99);
        x.set(PIES, 0, 8);
        int[] want = {7, 1, 1, 99, 8, 5, 1, 1, 1, 22, 1};
        for (int what = 0; what <= 10; what++) {
            DOC.is("told(0, " + what + ")", x.told(0, what), want[what]);
        }
        int[] none = {LEAST, -1, 11, 12, MOST};
        for (int what : none) {
            DOC.is("told(0, " + what + ")", x.told(0, what), -2);
        }
        int[] nobody = {LEAST, -1, 1, 6, MOST};
        for (int of : nobody) {
            DOC.is("told(" + of + ", 0)", x.told(of, NUMBER), -2);
            DOC.is("told(" + of + ", 10)", x.told(of, MINDS), -2);
        }
        DOC.says(4, "(8 to 10 in the MINUTE in which it COMES, with nobody ahead)");
        OtherSidesPump y = Station.ruled("minute+ahead*40", "minute=99 and ahead=0", "minute-90+ahead*9");
        y.car(0, 0, 0);
        y.car(0, 0, 0);
        // car 0 is at the front pump when 1 comes, and is not counted all the same
        y.set(COMES, 1, 1);
        DOC.is("takes in 1", y.told(1, TAKES), 1);
        y.set(COMES, 1, 98);
        DOC.is("draws forward in 98", y.told(1, DRAWS), 0);
        DOC.is("minds in 98", y.told(1, MINDS), 8);
        y.set(COMES, 1, 99);
        DOC.is("draws forward in 99", y.told(1, DRAWS), 1);
        DOC.is("minds in 99", y.told(1, MINDS), 9);
        DOC.is("takes in 99", y.told(1, TAKES), 40);
        // nobody is none: neither more nor less
        OtherSidesPump z = Station.ruled("5+ahead", "ahead=0", "5+ahead");
        z.car(0, 0, 0);
        z.car(0, 0, 0);
        for (int car = 0; car < 2; car++) {
            DOC.is("takes with nobody ahead", z.told(car, TAKES), 5);
            DOC.is("draws forward with nobody ahead", z.told(car, DRAWS), 1);
            DOC.is("minds with nobody ahead", z.told(car, MINDS), 5);
        }
    }

    /** What one of a kind takes when the text tells v. */
    private static int takes(int kind, int v, int pies, int number) {
        OtherSidesPump x = Station.ruled("" + v, "1", "1");
        x.car(kind, number, 0);
        x.set(PIES, 0, pies);
        return x.told(0, TAKES);
    }

    private static void takesOfKinds() {
        DOC.says(4, "TAKES (takes telling v): CAR: v and PIES;");
        DOC.is("1 and 0", takes(0, 1, 0, 9), 1);
        DOC.is("0 and 9", takes(0, 0, 9, 9), 9);
        DOC.is("40 and 9", takes(0, 40, 9, 9), 49);
        DOC.says(4, "VAN: twice a CAR's;");
        DOC.is("1 and 0", takes(1, 1, 0, 9), 2);
        DOC.is("40 and 9", takes(1, 40, 9, 9), 98);
        DOC.says(4, "BIKE: half (cut) of a CAR's;");
        DOC.is("2 and 0", takes(2, 2, 0, 9), 1);
        DOC.is("2 and 1", takes(2, 2, 1, 9), 1);
        DOC.is("2 and 2", takes(2, 2, 2, 9), 2);
        DOC.is("40 and 9", takes(2, 40, 9, 9), 24);
        DOC.says(4, "TRAILER: NUMBER more than a VAN;");
        DOC.is("1 and 0, number 0", takes(3, 1, 0, 0), 2);
        DOC.is("0 and 0, number 9", takes(3, 0, 0, 9), 9);
        DOC.is("40 and 9, number 9", takes(3, 40, 9, 9), 107);
        DOC.says(4, "SCOOTER: as a BIKE;");
        DOC.is("2 and 1", takes(4, 2, 1, 9), 1);
        DOC.is("40 and 9", takes(4, 40, 9, 9), 24);
        DOC.says(4, "LORRY: 10 more than a CAR.");
        DOC.is("1 and 0", takes(5, 1, 0, 9), 11);
        DOC.is("40 and 9", takes(5, 40, 9, 9), 59);
        DOC.says(4, "(TAKES 1 at least, in the end.)");
        int[] nothingTold = {1, 1, 1, 1, 1, 10};
        for (int kind = 0; kind < 6; kind++) {
            DOC.is("kind " + kind + ", 0 and 0", takes(kind, 0, 0, 0), nothingTold[kind]);
        }
        // in the end, so neither a VAN's half nor what a TRAILER adds to is 1 before
        DOC.is("TRAILER with number 1", takes(3, 0, 0, 1), 1);
        DOC.is("TRAILER with number 2", takes(3, 0, 0, 2), 2);
        DOC.is("BIKE, 1 and 0", takes(2, 1, 0, 0), 1);
        OtherSidesPump x = Station.ruled("0", "1", "1");
        x.car(0, 0, 0);
        DOC.is("off a minute later", x.times(0, 1), 1);
        DOC.says(4, "Quotients are cut toward 0.");
        DOC.is("BIKE, 9 and 0", takes(2, 9, 0, 0), 4);
        DOC.is("SCOOTER, 0 and 3", takes(4, 0, 3, 0), 1);
    }

    /** Four digits: whether one of a kind fits lanes 0 .. 3. */
    private static int fits(int kind, int cap) {
        OtherSidesPump x = new OtherSidesPump();
        x.car(kind, 0, 0);
        x.set(CAP, 0, cap);
        int digits = 0;
        for (int lane = 0; lane < 4; lane++) {
            x.set(LANE, 0, lane);
            digits = digits * 10 + x.told(0, FITS);
        }
        return digits;
    }

    private static void fitsOfKinds() {
        String[] words = {"FITS (a LANE): CAR: if LANE modulo 2 is CAP;", "VAN: as a CAR;", "BIKE: any;", "TRAILER: as a VAN;",
            "SCOOTER: any;", "LORRY: but LANE 3."};
        int[][] want = {{1010, 101}, {1010, 101}, {1111, 1111}, {1010, 101}, {1111, 1111}, {1110, 1110}};
        for (int kind = 0; kind < 6; kind++) {
            DOC.says(4, words[kind]);
            for (int cap = 0; cap < 2; cap++) {
                DOC.is("CAP " + cap, fits(kind, cap), want[kind][cap]);
            }
        }
    }

    private static int draws(int kind, String forwards, int number) {
        OtherSidesPump x = Station.ruled("4", forwards, "1");
        x.car(kind, number, 0);
        return x.told(0, DRAWS);
    }

    private static void drawsOfKinds() {
        DOC.says(4, "DRAWS FORWARD (forwards telling yes, if it isn't 0): CAR: if yes;");
        DOC.is("0", draws(0, "0", 9), 0);
        DOC.is("1", draws(0, "1", 0), 1);
        DOC.is("-1", draws(0, "-1", 0), 1);
        DOC.is("2", draws(0, "2", 0), 1);
        DOC.is("the least int", draws(0, Station.asE(LEAST), 0), 1);
        DOC.is("256", draws(0, "256", 0), 1);
        DOC.says(4, "VAN: as a CAR; BIKE: no; TRAILER: as a VAN; SCOOTER: always;");
        int[] ifNot = {0, 0, 0, 0, 1};
        int[] ifYes = {1, 1, 0, 1, 1};
        for (int kind = 1; kind < 5; kind++) {
            DOC.is("kind " + kind + ", 0", draws(kind, "0", 9), ifNot[kind]);
            DOC.is("kind " + kind + ", 1", draws(kind, "1", 0), ifYes[kind]);
        }
        DOC.says(4, "LORRY: if yes and NUMBER is above 4.");
        int[] numbers = {0, 4, 5, 9};
        for (int number : numbers) {
            DOC.is("number " + number + ", 0", draws(5, "0", number), 0);
            DOC.is("number " + number + ", 1", draws(5, "1", number), number > 4 ? 1 : 0);
        }
    }

    private static void longOnes() {
        DOC.says(4, "LONG: TRAILER, LORRY: yes; others: no.");
        int[] want = {0, 0, 0, 1, 0, 1};
        for (int kind = 0; kind < 6; kind++) {
            OtherSidesPump x = Station.with(1, kind, 0);
            DOC.is("kind " + kind, x.told(0, LONG), want[kind]);
        }
    }

    /** What a part of the rule tells of a CAR when its E is v. */
    private static int toldBy(int what, int v) {
        String e = Station.asE(v);
        OtherSidesPump x = Station.ruled(what == TAKES ? e : "1", "1", what == MINDS ? e : "1");
        x.car(0, 0, 0);
        return x.told(0, what);
    }

    private static void boundsOfTheRule() {
        DOC.says(4, "takes (0 .. 40, else the bound)");
        int[] below = {LEAST, -41, -1, 0, 1};
        for (int v : below) {
            DOC.is("takes " + v, toldBy(TAKES, v), 1);
        }
        DOC.is("takes 2", toldBy(TAKES, 2), 2);
        DOC.is("takes 39", toldBy(TAKES, 39), 39);
        int[] above = {40, 41, 256, 65536, MOST};
        for (int v : above) {
            DOC.is("takes " + v, toldBy(TAKES, v), 40);
        }
        // the bound is that of what is told, not of what one takes: PIES, kinds come behind it
        DOC.is("VAN, -5 and 9", takes(1, -5, 9, 0), 18);
        DOC.is("CAR, 50 and 9", takes(0, 50, 9, 0), 49);
        DOC.says(4, "takes (0 .. 40, else the bound), forwards, minds: how bad each MINUTE of waiting is "
            + "(0 .. 9, else the bound).");
        int[] noneMinded = {LEAST, -9, -1, 0};
        for (int v : noneMinded) {
            DOC.is("minds " + v, toldBy(MINDS, v), 0);
        }
        DOC.is("minds 1", toldBy(MINDS, 1), 1);
        DOC.is("minds 8", toldBy(MINDS, 8), 8);
        int[] mindedMost = {9, 10, 256, 65536, MOST};
        for (int v : mindedMost) {
            DOC.is("minds " + v, toldBy(MINDS, v), 9);
        }
        DOC.says(4, "TEXT 0, at first THE RULE, is: takes 4 ; forwards 1 ; minds 1 ;");
        OtherSidesPump x = Station.with(1, 0, 0);
        DOC.is("count(3)", x.count(3), 0);
        DOC.is("takes", x.told(0, TAKES), 4);
        DOC.is("forwards", x.told(0, DRAWS), 1);
        DOC.is("minds", x.told(0, MINDS), 1);
    }

    private static void names() {
        DOC.says(4, "Of a CAR in a MINUTE: cap: CAP; lane: LANE; minute: the MINUTE; number: NUMBER; "
            + "ahead: how many of its LANE are at its pumps then; pie: PIES.");
        String[] name = {"number", "cap", "lane", "minute", "pie"};
        int[] highest = {9, 1, 3, 99, 9};
        for (int what = 0; what < 5; what++) {
            // told as 1 where the name is worth what it should be
            for (int v = 0; v <= highest[what]; v += highest[what]) {
                OtherSidesPump x = Station.ruled("1", "1", name[what] + "=" + v);
                x.car(4, 4, 1);
                x.set(CAP, 0, 0);
                x.set(COMES, 0, 50);
                x.set(PIES, 0, 5);
                x.set(what, 0, v);
                DOC.is(name[what] + " at " + v, x.told(0, MINDS), 1);
            }
        }
        // one in another lane isn't counted; one at the front pump is
        OtherSidesPump y = Station.ruled("5+ahead*10", "1", "1");
        y.car(0, 0, 0);
        y.car(0, 0, 2);
        y.car(0, 0, 0);
        DOC.is("off with nobody ahead", y.times(0, 1), 5);
        DOC.is("off with nobody ahead in its lane", y.times(1, 1), 5);
        DOC.is("off with one ahead", y.times(2, 1), 15);
    }

    private static void theLastCall() {
        DOC.says(0, "An object is used for at most 512 calls after it has been made;");
        OtherSidesPump x = new OtherSidesPump();
        DOC.is("call 1", x.car(4, 7, 3), 0);
        for (int call = 2; call <= 511; call++) {
            DOC.is("call " + call, x.set(COMES, 0, call % 100), call == 2 ? 0 : (call - 1) % 100);
        }
        DOC.is("call 512", x.times(0, 1), 511 % 100 + 2);
    }
}
