/** The bounds of promises 11 to 15, sentence by sentence: lane, lanes, when, forward, blame. */
public final class BoundsOfBestTest {
    private static final Sentences DOC = new Sentences();
    private static final int LEAST = Sentences.LEAST, MOST = Sentences.MOST;
    private static final int CAR = 0, BIKE = 2, TRAILER = 3, SCOOTER = 4, LORRY = 5;

    public static void main(String[] args) {
        lane();
        bestLane();
        lanes();
        bestLanes();
        when();
        forward();
        blame();
        DOC.end();
    }

    private static void laneIs(OtherSidesPump x, String which, int car, int lane, int off) {
        DOC.is(which + ": lane(" + car + ", 0)", x.lane(car, 0), lane);
        DOC.is(which + ": lane(" + car + ", 1)", x.lane(car, 1), off);
    }

    private static void lane() {
        DOC.says(11, "BEST LANE (what 0; NONE), OFF then (1; NONE). BAD.");
        OtherSidesPump x = new OtherSidesPump();
        DOC.is("nobody", x.lane(0, 0), -2);
        DOC.is("nobody", x.lane(0, 1), -2);
        x.car(CAR, 0, 0);
        laneIs(x, "one", 0, 0, 4);
        int[] none = {LEAST, -1, 2, 3, MOST};
        for (int what : none) {
            DOC.is("lane(0, " + what + ")", x.lane(0, what), -2);
        }
        int[] nobody = {LEAST, -1, 1, 6, MOST};
        for (int car : nobody) {
            DOC.is("lane(" + car + ", 0)", x.lane(car, 0), -2);
            DOC.is("lane(" + car + ", 1)", x.lane(car, 1), -2);
        }
    }

    private static void bestLane() {
        DOC.says(11, "BEST LANE (a CAR): that in which it would be OFF first; of like ones the first; NONE: in none.");
        OtherSidesPump x = Station.with(1, SCOOTER, 3);
        laneIs(x, "like everywhere", 0, 0, 2);
        // cars in lanes 0 to 2 are in its way: the last lane alone is left
        OtherSidesPump y = new OtherSidesPump();
        for (int lane = 0; lane < 3; lane++) {
            y.car(BIKE, 0, lane);
        }
        y.car(BIKE, 0, 0);
        laneIs(y, "the last lane", 3, 3, 2);
        DOC.is("it is where it was", y.told(3, 2), 0);
        OtherSidesPump each = new OtherSidesPump();
        for (int lane = 0; lane < 4; lane++) {
            each.car(BIKE, 0, lane);
        }
        each.car(BIKE, 0, 3);
        laneIs(each, "one in each", 4, 0, 4);
        each.set(4, 0, 9);
        laneIs(each, "the first takes longer", 4, 1, 4);
        // a lane that it doesn't fit is none
        OtherSidesPump z = new OtherSidesPump();
        z.car(CAR, 0, 0);
        z.set(1, 0, 1);
        laneIs(z, "one that fits 1 and 3", 0, 1, 4);
        OtherSidesPump trailer = Station.ruled("40", "1", "1");
        trailer.car(TRAILER, 2, 1);
        trailer.set(4, 0, 9);
        trailer.set(3, 0, 99);
        laneIs(trailer, "off in 199", 0, 0, 199);
        trailer.set(0, 0, 3);
        laneIs(trailer, "off in 200", 0, -1, -1);
        // by lanes of which the text tells: lane 3 takes least
        OtherSidesPump told = Station.ruled("8-lane*2", "1", "1");
        told.car(SCOOTER, 0, 0);
        laneIs(told, "the text tells of lanes", 0, 3, 1);
    }

    private static void lanesAre(OtherSidesPump x, String which, int digits, int badness) {
        DOC.is(which + ": lanes(0)", x.lanes(0), digits);
        DOC.is(which + ": lanes(1)", x.lanes(1), badness);
    }

    private static void lanes() {
        DOC.says(12, "BEST LANES (what 0; 0: no CARS), BADNESS then (1). BAD.");
        OtherSidesPump x = new OtherSidesPump();
        int[] none = {LEAST, -1, 2, 3, MOST};
        lanesAre(x, "no cars", 0, 0);
        for (int turn = 0; turn < 2; turn++) {
            for (int what : none) {
                DOC.is("lanes(" + what + ")", x.lanes(what), -2);
            }
            x.car(CAR, 0, 0);
        }
    }

    private static void bestLanes() {
        DOC.says(12, "BEST LANES: of all LANES that all CARS could have those by which BADNESS is least; of like ones "
            + "the first (CAR 0's, then 1's, ..): as digits, 1 more than each, CAR 0's the highest.");
        OtherSidesPump x = Station.ruled("4", "1", "9");
        x.car(LORRY, 0, 3);
        lanesAre(x, "one", 1, 0);
        x.car(LORRY, 0, 3);
        lanesAre(x, "two", 12, 0);
        x.car(LORRY, 0, 3);
        lanesAre(x, "three", 123, 0);
        // a fourth one waits 14 behind another; lane 3 fits none
        x.car(LORRY, 0, 3);
        lanesAre(x, "four", 1123, 9 * 14);
        x.car(LORRY, 0, 3);
        lanesAre(x, "five", 11223, 9 * 28);
        x.car(LORRY, 0, 3);
        lanesAre(x, "six", 112233, 9 * 42);
        for (int car = 0; car < 6; car++) {
            DOC.is("it is where it was", x.told(car, 2), 3);
        }
        // the highest lane of all
        OtherSidesPump y = Station.ruled("1", "0", "1+(lane<3)");
        for (int i = 0; i < 5; i++) {
            y.car(BIKE, 0, 0);
        }
        lanesAre(y, "lane 3 minds least", 12344, 1);
        // lane 3 is left for those that lorries, which don't fit it, would keep waiting
        OtherSidesPump high = new OtherSidesPump();
        high.car(SCOOTER, 0, 0);
        high.car(LORRY, 0, 0);
        high.car(LORRY, 0, 0);
        high.car(LORRY, 0, 0);
        lanesAre(high, "the first in the last lane", 4123, 0);
        high.car(BIKE, 0, 0);
        lanesAre(high, "the last, too", 41234, 0);
        Station.car(high, BIKE, 0, 50);
        lanesAre(high, "and one that comes later", 412341, 0);
        OtherSidesPump z = Station.ruled("1", "1", "0");
        for (int i = 0; i < 6; i++) {
            z.car(CAR, 0, 3);
        }
        lanesAre(z, "all are like", 111111, 0);
        OtherSidesPump cap = Station.ruled("1", "1", "1");
        for (int i = 0; i < 3; i++) {
            cap.car(CAR, 0, 0);
            cap.set(1, i, 1);
        }
        lanesAre(cap, "who fits 1 and 3", 224, 0);
        lanesOfWhichTextsTell();
    }

    /** The lane that a text reads is the one that a car would have, not the one that it has. */
    private static void lanesOfWhichTextsTell() {
        OtherSidesPump takes = Station.ruled("lane*10+1", "0", "1");
        for (int i = 0; i < 6; i++) {
            takes.car(BIKE, 0, 3);
        }
        // a bike takes 1, 5, 10, 15 minutes in these lanes
        lanesAre(takes, "lane 0 takes least", 111234, 1 + 2);
        OtherSidesPump forwards = Station.ruled("10", "lane=2", "1");
        for (int i = 0; i < 3; i++) {
            forwards.car(CAR, 0, 0);
        }
        lanesAre(forwards, "in lane 2 one draws forward", 133, 0);
        forwards.car(CAR, 0, 0);
        lanesAre(forwards, "and one is too many", 1133, 10);
        // all that it could have: also those that it doesn't fit, where it minds nothing
        OtherSidesPump minds = Station.ruled("5", "1", "(lane=0 or lane=2)*9");
        for (int i = 0; i < 5; i++) {
            minds.car(CAR, 0, 0);
        }
        lanesAre(minds, "lane 1 fits nobody", 11222, 0);
    }

    private static void whenIs(OtherSidesPump x, String which, int car, int minute, int waited) {
        DOC.is(which + ": when(" + car + ", 0)", x.when(car, 0), minute);
        DOC.is(which + ": when(" + car + ", 1)", x.when(car, 1), waited);
    }

    private static void when() {
        DOC.says(13, "WHEN (what 0), how long it WAITED then (1). BAD.");
        OtherSidesPump x = new OtherSidesPump();
        DOC.is("nobody", x.when(0, 0), -2);
        DOC.is("nobody", x.when(0, 1), -2);
        x.car(CAR, 0, 0);
        int[] none = {LEAST, -1, 2, 3, MOST};
        for (int what : none) {
            DOC.is("when(0, " + what + ")", x.when(0, what), -2);
        }
        int[] nobody = {LEAST, -1, 1, 6, MOST};
        for (int car : nobody) {
            DOC.is("when(" + car + ", 0)", x.when(car, 0), -2);
            DOC.is("when(" + car + ", 1)", x.when(car, 1), -2);
        }
        DOC.says(13, "WHEN (a CAR): the MINUTE (0 .. 99) in which it would have to COME to have WAITED least; "
            + "of like ones the least.");
        x.set(3, 0, 50);
        whenIs(x, "at once in any", 0, 0, 0);
        DOC.is("it comes when it came", x.told(0, 3), 50);
        // it never fits: in 99 it has waited least, as there is no 100
        OtherSidesPump unfit = Station.with(1, CAR, 1);
        whenIs(unfit, "never", 0, 99, 101);
        // a trailer is at both pumps from 0 on: in the first minute behind it, or as late as can be
        OtherSidesPump y = Station.with(2, BIKE, 0);
        whenIs(y, "behind a bike", 1, 2, 0);
        whenIs(y, "ahead of one", 0, 0, 0);
        OtherSidesPump z = Station.ruled("40", "1", "1");
        z.car(TRAILER, 1, 0);
        z.set(4, 0, 9);
        z.car(BIKE, 0, 0);
        // 99 minutes
        whenIs(z, "free in 99", 1, 99, 0);
        z.set(0, 0, 2);
        whenIs(z, "free in 100", 1, 99, 1);
        z.set(0, 0, 9);
        whenIs(z, "free in 107", 1, 99, 8);
    }

    private static void forward() {
        DOC.says(14, "FORWARD: BADNESS, were forwards of all 1, less as it is.");
        DOC.is("no cars", new OtherSidesPump().forward(), 0);
        DOC.says(14, "`int forward()`: FORWARD.");
        OtherSidesPump x = Station.ruled("5", "0", "3");
        x.car(CAR, 0, 0);
        DOC.is("one", x.forward(), 0);
        x.car(CAR, 0, 0);
        DOC.is("two", x.forward(), -15);
        DOC.is("as it is", x.all(0), 15);
        DOC.is("nobody draws forward now", x.told(0, 8), 0);
        x.force(0);
        DOC.is("all do already", x.forward(), 0);
        // one that stays at the back pump by its kind does so then, too
        OtherSidesPump bikes = Station.ruled("4", "0", "1");
        bikes.car(BIKE, 0, 0);
        bikes.car(BIKE, 0, 0);
        DOC.is("bikes", bikes.forward(), 0);
        // worse than it is
        OtherSidesPump y = Station.ruled("1+ahead*20", "0", "1");
        for (int i = 0; i < 3; i++) {
            y.car(CAR, 0, 0);
        }
        DOC.is("worse", y.forward(), 21 - 3);
    }

    private static void blameIs(OtherSidesPump x, String which, int car, int badness) {
        DOC.is(which + ": blame(0)", x.blame(0), car);
        DOC.is(which + ": blame(1)", x.blame(1), badness);
    }

    private static void blame() {
        DOC.says(15, "BLAME (what 0; NONE), BADNESS of all others then (1; of all, as it is, if none). BAD.");
        OtherSidesPump x = new OtherSidesPump();
        blameIs(x, "no cars", -1, 0);
        int[] none = {LEAST, -1, 2, 3, MOST};
        for (int turn = 0; turn < 2; turn++) {
            for (int what : none) {
                DOC.is("blame(" + what + ")", x.blame(what), -2);
            }
            x.car(CAR, 0, 0);
        }
        blameIs(x, "nobody waits", -1, 0);
        OtherSidesPump unfit = Station.with(2, CAR, 1);
        blameIs(unfit, "of all, as it is", -1, 400);
        DOC.says(15, "BLAME: the CAR without which BADNESS of all others would be less by most, if by any; "
            + "of like ones the first; NONE.");
        // its own badness is none of the others'
        blameIs(unfit, "less by its own alone", -1, 400);
        OtherSidesPump y = Station.with(3, BIKE, 0);
        // 1 waits 2, 2 waits 4: without 0 they wait 0 and 2, without 1 the last one 2
        blameIs(y, "the first of three", 0, 2);
        y.set(2, 2, 1);
        blameIs(y, "by 2", 0, 0);
        OtherSidesPump like = Station.with(3, CAR, 0);
        blameIs(like, "like ones", 0, 0);
        // the last one: it comes first
        OtherSidesPump last = Station.with(6, BIKE, 0);
        for (int car = 0; car < 5; car++) {
            last.set(3, car, 1);
        }
        // it takes 6: the others wait 5 + 7 + 9 + 11 + 13 with it, 0 + 2 + 4 + 6 + 8 without it
        last.set(4, 5, 9);
        blameIs(last, "the sixth", 5, 20);
        // by one
        OtherSidesPump one = Station.with(2, BIKE, 0);
        one.set(3, 1, 1);
        blameIs(one, "by 1", 0, 0);
        one.set(3, 1, 2);
        blameIs(one, "by none", -1, 0);
        // without 0 the others would be worse off: 1 would start in 0, and take 40 then
        OtherSidesPump worse = Station.ruled("1+(minute<2 and number=0)*39", "0", "1");
        worse.car(CAR, 1, 0);
        worse.set(4, 0, 1);
        worse.car(CAR, 0, 0);
        worse.car(CAR, 0, 0);
        DOC.is("2 and 3", worse.all(0), 5);
        blameIs(worse, "the second", 1, 2);
        DOC.is("cars stay", worse.count(0), 3);
    }
}
