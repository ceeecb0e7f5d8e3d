/** The bounds of promises 8 to 10, sentence by sentence: times, pump, all, and what happens in a minute. */
public final class BoundsOfMinutesTest {
    private static final Sentences DOC = new Sentences();
    private static final int LEAST = Sentences.LEAST, MOST = Sentences.MOST;
    private static final int CAR = 0, VAN = 1, BIKE = 2, TRAILER = 3, SCOOTER = 4, LORRY = 5;

    public static void main(String[] args) {
        times();
        pump();
        all();
        firstAndLastMinute();
        finished();
        whoIsOffFirst();
        whoDrivesUp();
        drawingForward();
        longOnes();
        whoDoesNotFit();
        waited();
        inVain();
        badness();
        lastOff();
        outOfOrder();
        DOC.end();
    }

    /** STARTS, OFF, WAITED, at which pump. */
    private static void timesAre(OtherSidesPump x, int car, int starts, int off, int waited, int at) {
        int[] want = {starts, off, waited, at};
        for (int what = 0; what < 4; what++) {
            DOC.is("times(" + car + ", " + what + ")", x.times(car, what), want[what]);
        }
    }

    private static void pumpsAre(OtherSidesPump x, int lane, int minute, int back, int front) {
        DOC.is("pump(" + lane + ", " + minute + ", 0)", x.pump(lane, minute, 0), back);
        DOC.is("pump(" + lane + ", " + minute + ", 1)", x.pump(lane, minute, 1), front);
    }

    private static void times() {
        DOC.says(8, "Of a CAR: the MINUTE in which it STARTS (what 0; NONE), OFF (1; NONE), WAITED (2), "
            + "at which pump it was (3: 0 BACK, 1 FRONT, 2 both; NONE). BAD.");
        OtherSidesPump x = new OtherSidesPump();
        for (int what = 0; what < 4; what++) {
            DOC.is("times of nobody", x.times(0, what), -2);
        }
        x.car(CAR, 0, 0);
        x.car(VAN, 0, 0);
        x.car(LORRY, 0, 2);
        x.car(CAR, 0, 1);
        timesAre(x, 0, 0, 4, 0, 1);
        timesAre(x, 1, 0, 8, 0, 0);
        timesAre(x, 2, 0, 14, 0, 2);
        timesAre(x, 3, -1, -1, 200, -1);
        int[] none = {LEAST, -1, 4, 5, MOST};
        for (int n : none) {
            DOC.is("times(0, " + n + ")", x.times(0, n), -2);
            DOC.is("times(" + n + ", 0)", x.times(n, 0), -2);
            DOC.is("times(" + n + ", " + n + ")", x.times(n, n), -2);
        }
    }

    private static void pump() {
        DOC.says(9, "At the end of a MINUTE: who is at the BACK pump of a LANE (what 0), at the FRONT pump (1); "
            + "NONE: nobody. BAD.");
        OtherSidesPump x = Station.with(2, CAR, 0);
        pumpsAre(x, 0, 0, 1, 0);
        pumpsAre(x, 0, 3, 1, 0);
        pumpsAre(x, 0, 4, -1, -1);
        pumpsAre(x, 1, 0, -1, -1);
        pumpsAre(x, 3, 0, -1, -1);
        int[] none = {LEAST, -1, 2, 3, MOST};
        for (int what : none) {
            DOC.is("pump(0, 0, " + what + ")", x.pump(0, 0, what), -2);
        }
        int[] noLane = {LEAST, -1, 4, MOST};
        for (int lane : noLane) {
            DOC.is("pump(" + lane + ", 0, 0)", x.pump(lane, 0, 0), -2);
            DOC.is("pump(" + lane + ", 200, 2)", x.pump(lane, 200, 2), -2);
        }
        DOC.says(9, "MINUTES 0 .. 199.");
        int[] noMinute = {LEAST, -1, 200, 201, MOST};
        for (int minute : noMinute) {
            DOC.is("pump(0, " + minute + ", 0)", x.pump(0, minute, 0), -2);
            DOC.is("pump(0, " + minute + ", 1)", x.pump(0, minute, 1), -2);
        }
        pumpsAre(x, 0, 199, -1, -1);
        pumpsAre(new OtherSidesPump(), 3, 199, -1, -1);
    }

    private static void all() {
        DOC.says(10, "BADNESS (what 0), IN VAIN (1), the MINUTE in which the last one is OFF "
            + "(2; NONE: not all are, none is), OUT OF ORDER (3). BAD.");
        OtherSidesPump x = new OtherSidesPump();
        int[] noCars = {0, 0, -1, 0};
        int[] three = {4, 0, 8, 0};
        int[] none = {LEAST, -1, 4, 5, MOST};
        for (int turn = 0; turn < 2; turn++) {
            for (int what = 0; what < 4; what++) {
                DOC.is("all(" + what + ")", x.all(what), turn == 0 ? noCars[what] : three[what]);
            }
            for (int what : none) {
                DOC.is("all(" + what + ")", x.all(what), -2);
            }
            for (int i = 0; i < 3; i++) {
                x.car(CAR, 0, 0);
            }
        }
    }

    /** A trailer that comes in 99 and takes 98 minutes and its number, and a car behind it. */
    private static OtherSidesPump lateTrailer(int number, String forwards) {
        OtherSidesPump x = Station.ruled("40", forwards, "1");
        x.car(TRAILER, number, 0);
        x.set(4, 0, 9);
        x.set(3, 0, 99);
        x.car(CAR, 0, 0);
        x.set(3, 1, 99);
        return x;
    }

    private static void firstAndLastMinute() {
        DOC.says(8, "MINUTE by MINUTE, from 0 to 199, LANE by LANE:");
        timesAre(Station.with(1, CAR, 0), 0, 0, 4, 0, 1);
        OtherSidesPump before = lateTrailer(1, "1");
        timesAre(before, 0, 99, 198, 0, 2);
        timesAre(before, 1, 198, -1, 99, 1);
        // the last minute is played: one is off, another starts, its text is told of minute 199
        OtherSidesPump last = lateTrailer(2, "minute=199");
        timesAre(last, 0, 99, 199, 0, 2);
        timesAre(last, 1, 199, -1, 100, 1);
        pumpsAre(last, 0, 198, 0, 0);
        pumpsAre(last, 0, 199, -1, 1);
        // and there is none behind it
        OtherSidesPump behind = lateTrailer(3, "1");
        timesAre(behind, 0, 99, -1, 0, 2);
        timesAre(behind, 1, -1, -1, 101, -1);
        pumpsAre(behind, 0, 199, 0, 0);
        DOC.says(8, "OFF: the MINUTE, NONE: it isn't by 199.");
        DOC.is("finished in 199", lateTrailer(2, "1").times(0, 1), 199);
        DOC.is("finished in 200", lateTrailer(3, "1").times(0, 1), -1);
        DOC.is("finished long after", lateTrailer(9, "1").times(0, 1), -1);
        DOC.is("never at a pump", Station.with(1, CAR, 1).times(0, 1), -1);
    }

    private static void finished() {
        DOC.says(8, "first the CAR at the FRONT pump, if it is FINISHED (its TAKES MINUTES are over), is OFF.");
        OtherSidesPump x = Station.with(1, CAR, 0);
        pumpsAre(x, 0, 3, -1, 0);
        pumpsAre(x, 0, 4, -1, -1);
        DOC.is("times(0, 1)", x.times(0, 1), 4);
        DOC.says(8, "It STARTS then; it TAKES (told then) so many MINUTES, this one, too.");
        OtherSidesPump y = Station.ruled("1", "1", "1");
        y.car(CAR, 0, 0);
        y.set(3, 0, 7);
        timesAre(y, 0, 7, 8, 0, 1);
        pumpsAre(y, 0, 6, -1, -1);
        pumpsAre(y, 0, 7, -1, 0);
        pumpsAre(y, 0, 8, -1, -1);
        // told then: when it starts, not when it comes
        OtherSidesPump z = Station.ruled("minute+2", "0", "1");
        z.car(CAR, 0, 0);
        z.car(CAR, 0, 0);
        timesAre(z, 0, 0, 2, 0, 0);
        timesAre(z, 1, 2, 6, 2, 0);
    }

    private static void whoIsOffFirst() {
        DOC.says(8, "Then that at the BACK pump, if it is FINISHED and nothing is at the FRONT pump, is OFF.");
        // finished a minute before the front one: it stands there
        OtherSidesPump x = Station.with(2, CAR, 0);
        x.set(4, 0, 1);
        timesAre(x, 0, 0, 5, 0, 1);
        timesAre(x, 1, 0, 5, 0, 0);
        pumpsAre(x, 0, 4, 1, 0);
        // in the same minute: both are off
        OtherSidesPump y = Station.with(3, CAR, 0);
        timesAre(y, 0, 0, 4, 0, 1);
        timesAre(y, 1, 0, 4, 0, 0);
        timesAre(y, 2, 4, 8, 4, 1);
        // finished a minute later: it is still there
        OtherSidesPump z = Station.with(2, CAR, 0);
        z.set(4, 1, 1);
        timesAre(z, 1, 0, 5, 0, 0);
        pumpsAre(z, 0, 4, 1, -1);
        pumpsAre(z, 0, 5, -1, -1);
        // with nobody ever at the front pump
        OtherSidesPump bike = Station.with(1, BIKE, 0);
        timesAre(bike, 0, 0, 2, 0, 0);
    }

    private static void whoDrivesUp() {
        DOC.says(8, "Then, as long as nothing is at the BACK pump, the first one of the LANE that has COME, FITS, "
            + "and hasn't driven up yet (by the MINUTE in which it COMES, of like ones by numbers), drives up:");
        OtherSidesPump x = Station.with(6, CAR, 0);
        for (int car = 0; car < 6; car++) {
            int turn = car / 2;
            timesAre(x, car, 4 * turn, 4 * turn + 4, 4 * turn, car % 2 == 0 ? 1 : 0);
        }
        // one comes in the very minute in which both are off, another a minute earlier
        OtherSidesPump y = Station.with(4, CAR, 0);
        y.set(3, 2, 4);
        y.set(3, 3, 3);
        timesAre(y, 3, 4, 8, 1, 1);
        timesAre(y, 2, 4, 8, 0, 0);
        // in one lane nobody waits for another lane
        OtherSidesPump z = Station.with(2, BIKE, 0);
        z.set(2, 1, 1);
        timesAre(z, 1, 0, 2, 0, 0);
        DOC.says(8, "(by the MINUTE in which it COMES, of like ones by numbers)");
        OtherSidesPump like = new OtherSidesPump();
        like.car(BIKE, 9, 0);
        like.car(BIKE, 0, 0);
        timesAre(like, 0, 0, 2, 0, 0);
        timesAre(like, 1, 2, 4, 2, 0);
        like.set(3, 0, 1);
        timesAre(like, 1, 0, 2, 0, 0);
        timesAre(like, 0, 2, 4, 1, 0);
        OtherSidesPump last = Station.with(6, BIKE, 3);
        last.set(3, 5, 99);
        last.set(3, 0, 98);
        timesAre(last, 0, 98, 100, 0, 0);
        timesAre(last, 5, 100, 102, 1, 0);
    }

    private static void drawingForward() {
        DOC.says(8, "if nothing is at the FRONT pump, and it DRAWS FORWARD (told then), it is at the FRONT pump, "
            + "and the next one may drive up, too; else it is at the BACK pump.");
        OtherSidesPump x = Station.with(3, SCOOTER, 1);
        DOC.is("the first", x.times(0, 3), 1);
        DOC.is("the next one, in the same minute", x.times(1, 3), 0);
        DOC.is("it starts", x.times(1, 0), 0);
        DOC.is("not a third one", x.times(2, 0), 2);
        // the front pump is free, but one is at the back pump
        OtherSidesPump y = new OtherSidesPump();
        y.car(BIKE, 0, 1);
        y.car(SCOOTER, 0, 1);
        timesAre(y, 0, 0, 2, 0, 0);
        timesAre(y, 1, 2, 4, 2, 1);
        // the front pump is taken, though it would draw forward
        OtherSidesPump z = new OtherSidesPump();
        z.car(CAR, 0, 0);
        z.car(SCOOTER, 0, 0);
        z.set(3, 1, 3);
        timesAre(z, 1, 3, 5, 0, 0);
        // told then: in the minute in which it drives up
        OtherSidesPump told = Station.ruled("2", "minute=2", "1");
        told.car(CAR, 0, 0);
        told.car(CAR, 0, 0);
        DOC.is("told of minute 0", told.times(0, 3), 0);
        DOC.is("told of minute 2", told.times(1, 3), 1);
    }

    private static void longOnes() {
        DOC.says(8, "One that is LONG drives up just if nothing is at the FRONT pump either (else nobody does), "
            + "and is at both");
        OtherSidesPump x = new OtherSidesPump();
        x.car(CAR, 0, 0);
        x.car(LORRY, 9, 0);
        x.car(BIKE, 0, 0);
        timesAre(x, 1, 4, 18, 4, 2);
        timesAre(x, 2, 18, 20, 18, 0);
        pumpsAre(x, 0, 3, -1, 0);
        pumpsAre(x, 0, 4, 1, 1);
        pumpsAre(x, 0, 17, 1, 1);
        pumpsAre(x, 0, 18, 2, -1);
        // in the minute ahead of which the front one is off, it comes to free pumps
        x.set(3, 1, 4);
        timesAre(x, 1, 4, 18, 0, 2);
        // it is at both, whether it draws forward or not
        int[] numbers = {4, 5};
        for (int number : numbers) {
            OtherSidesPump y = new OtherSidesPump();
            y.car(LORRY, number, 0);
            DOC.is("a lorry with number " + number, y.times(0, 3), 2);
        }
        DOC.says(8, "(it counts as one at the FRONT pump that leaves no room at the BACK pump)");
        OtherSidesPump y = Station.ruled("1+ahead*9", "1", "1");
        y.car(LORRY, 0, 0);
        y.car(CAR, 0, 0);
        timesAre(y, 0, 0, 11, 0, 2);
        timesAre(y, 1, 11, 12, 11, 1);
        DOC.is("its pump isn't free in vain", y.all(1), 0);
        pumpsAre(y, 0, 10, 0, 0);
        pumpsAre(y, 0, 11, -1, 1);
    }

    private static void whoDoesNotFit() {
        DOC.says(8, "One that doesn't FIT its LANE never drives up, and is in nobody's way.");
        OtherSidesPump x = new OtherSidesPump();
        x.car(CAR, 0, 1);
        x.car(TRAILER, 0, 1);
        x.car(BIKE, 0, 1);
        timesAre(x, 0, -1, -1, 200, -1);
        timesAre(x, 1, -1, -1, 200, -1);
        timesAre(x, 2, 0, 2, 0, 0);
        for (int minute = 0; minute < 200; minute += 199) {
            DOC.is("the front pump in " + minute, x.pump(1, minute, 1), -1);
        }
        x.set(1, 0, 1);
        timesAre(x, 0, 0, 4, 0, 1);
        OtherSidesPump lorry = Station.with(1, LORRY, 2);
        DOC.is("a lorry in lane 2", lorry.times(0, 0), 0);
        lorry.set(2, 0, 3);
        DOC.is("a lorry in lane 3", lorry.times(0, 0), -1);
    }

    private static void waited() {
        DOC.says(8, "WAITED: from the MINUTE in which it COMES to that in which it STARTS (till 200, if it never does).");
        OtherSidesPump x = Station.with(1, CAR, 1);
        DOC.is("from 0 on, never", x.times(0, 2), 200);
        x.set(3, 0, 1);
        DOC.is("from 1 on, never", x.times(0, 2), 199);
        x.set(3, 0, 99);
        DOC.is("from 99 on, never", x.times(0, 2), 101);
        x.set(1, 0, 1);
        DOC.is("from 99 on, at once", x.times(0, 2), 0);
        DOC.is("till the last minute", lateTrailer(2, "1").times(1, 2), 100);
        DOC.is("a minute longer", lateTrailer(3, "1").times(1, 2), 101);
        OtherSidesPump y = Station.with(2, BIKE, 0);
        y.set(3, 1, 1);
        DOC.is("a minute", y.times(1, 2), 1);
        y.set(3, 1, 2);
        DOC.is("none", y.times(1, 2), 0);
    }

    private static void inVain() {
        DOC.says(10, "IN VAIN: MINUTES in which nothing is at a FRONT pump behind which one stands at the BACK pump "
            + "(as all is at the end of the MINUTE).");
        DOC.is("no cars", new OtherSidesPump().all(1), 0);
        DOC.is("one at the front pump", Station.with(1, CAR, 0).all(1), 0);
        DOC.is("one at each", Station.with(2, CAR, 0).all(1), 0);
        OtherSidesPump x = Station.with(2, CAR, 0);
        x.set(4, 1, 1);
        DOC.is("for a minute", x.all(1), 1);
        x.set(4, 1, 9);
        DOC.is("for nine", x.all(1), 9);
        // at the end of the minute in which both are off nobody stands there
        OtherSidesPump bike = Station.with(1, BIKE, 0);
        DOC.is("a bike", bike.all(1), 2);
        // a minute counts for each front pump that is free so in it
        for (int lane = 1; lane < 4; lane++) {
            bike.car(BIKE, 0, lane);
            DOC.is("a bike in each of " + (lane + 1) + " lanes", bike.all(1), 2 * (lane + 1));
        }
        // one that is finished, but stands behind another, has the front pump taken
        OtherSidesPump y = Station.with(2, CAR, 0);
        y.set(4, 0, 9);
        DOC.is("behind one that takes longer", y.all(1), 0);
        DOC.is("in the last minute, too", lateTrailer(2, "0").all(1), 1);
        DOC.is("not behind it", lateTrailer(3, "0").all(1), 0);
        DOC.is("the last two", lateTrailer(1, "0").all(1), 2);
    }

    private static void badness() {
        DOC.says(10, "BADNESS: minds (of the MINUTE in which it COMES, with nobody ahead) times what each WAITED, together.");
        DOC.is("no cars", new OtherSidesPump().all(0), 0);
        DOC.is("nobody waits", Station.with(2, CAR, 0).all(0), 0);
        // as bad as can be: six that never fit, all minding it most
        OtherSidesPump x = Station.ruled("1", "1", "9");
        for (int i = 0; i < 6; i++) {
            x.car(CAR, 0, 1);
        }
        DOC.is("the worst there is", x.all(0), 6 * 9 * 200);
        OtherSidesPump y = Station.ruled("1", "1", "0");
        y.car(CAR, 0, 1);
        DOC.is("who doesn't mind", y.all(0), 0);
        OtherSidesPump z = Station.ruled("5", "0", "minute+ahead*5");
        z.car(CAR, 0, 0);
        z.car(CAR, 0, 0);
        DOC.is("by the minute in which it comes", z.all(0), 0);
        z.set(3, 1, 1);
        DOC.is("1 times 4", z.all(0), 4);
        z.set(3, 1, 4);
        DOC.is("4 times 1", z.all(0), 4);
        z.set(3, 1, 2);
        DOC.is("2 times 3", z.all(0), 6);
    }

    private static void lastOff() {
        DOC.says(10, "the MINUTE in which the last one is OFF (2; NONE: not all are, none is)");
        DOC.is("no cars", new OtherSidesPump().all(2), -1);
        OtherSidesPump x = Station.with(1, CAR, 0);
        DOC.is("one", x.all(2), 4);
        x.car(CAR, 0, 2);
        x.set(4, 0, 9);
        DOC.is("not the last that came", x.all(2), 13);
        x.car(CAR, 0, 1);
        DOC.is("not all are", x.all(2), -1);
        OtherSidesPump trailer = Station.ruled("40", "1", "1");
        trailer.car(TRAILER, 2, 0);
        trailer.set(4, 0, 9);
        trailer.set(3, 0, 99);
        DOC.is("in 199", trailer.all(2), 199);
        trailer.set(0, 0, 3);
        DOC.is("in 200", trailer.all(2), -1);
    }

    private static void outOfOrder() {
        DOC.says(10, "OUT OF ORDER: how many pairs of CARS of one LANE there are of which the one that COMES first "
            + "(of like ones the lesser number) is OFF later than the other one (both being OFF).");
        DOC.is("no cars", new OtherSidesPump().all(3), 0);
        // nobody gets past another one, so there are none: of one lane, off together, or not off
        OtherSidesPump x = Station.with(3, CAR, 0);
        x.set(4, 0, 9);
        DOC.is("off together", x.all(3), 0);
        x.set(2, 1, 2);
        DOC.is("of another lane", x.all(3), 0);
        x.set(2, 0, 1);
        DOC.is("one that is never off", x.all(3), 0);
        OtherSidesPump y = Station.with(2, CAR, 0);
        y.set(3, 0, 50);
        DOC.is("the later number comes first", y.all(3), 0);
        // one of them being OFF is not enough, whichever it is
        OtherSidesPump z = new OtherSidesPump();
        z.car(BIKE, 0, 1);
        z.car(CAR, 0, 1);
        DOC.is("the other one is never off", z.all(3), 0);
        z.set(3, 0, 5);
        DOC.is("the one that comes first is never off", z.all(3), 0);
        DOC.is("the other one isn't off by 199", lateTrailer(2, "1").all(3), 0);
        DOC.is("neither is off by 199", lateTrailer(3, "1").all(3), 0);
    }
}
