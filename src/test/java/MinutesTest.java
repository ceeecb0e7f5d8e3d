/** Promises 8 to 10: times, pump, all. */
public final class MinutesTest {
    private static final Due DUE = new Due();

    public static void main(String[] args) {
        nobodyGetsPast();
        frontIsFreeInVain();
        orderOfComing();
        longOnes();
        someDoNotFit();
        endOfTheDay();
        toldWhenDrivingUp();
        badness();
        refusals();
        DUE.end();
    }

    /** Starts, off, waited, at which pump. */
    private static void times(OtherSidesPump x, int car, int... want) {
        for (int what = 0; what < want.length; what++) {
            DUE.is(8, "times(" + car + ", " + what + ")", x.times(car, what), want[what]);
        }
    }

    private static void pumps(OtherSidesPump x, int lane, int minute, int back, int front) {
        DUE.is(9, "pump(" + lane + ", " + minute + ", 0)", x.pump(lane, minute, 0), back);
        DUE.is(9, "pump(" + lane + ", " + minute + ", 1)", x.pump(lane, minute, 1), front);
    }

    /** Badness, in vain, the last one off, out of order. */
    private static void all(OtherSidesPump x, int... want) {
        for (int what = 0; what < want.length; what++) {
            DUE.is(10, "all(" + what + ")", x.all(what), want[what]);
        }
    }

    private static void nobodyGetsPast() {
        OtherSidesPump x = new OtherSidesPump();
        for (int i = 0; i < 3; i++) {
            x.car(0, 0, 0);
        }
        x.set(4, 0, 3);
        // 1 is finished in 4, but stands behind 0 till 7
        times(x, 0, 0, 7, 0, 1);
        times(x, 1, 0, 7, 0, 0);
        times(x, 2, 7, 11, 7, 1);
        pumps(x, 0, 0, 1, 0);
        pumps(x, 0, 6, 1, 0);
        pumps(x, 0, 7, -1, 2);
        pumps(x, 0, 10, -1, 2);
        pumps(x, 0, 11, -1, -1);
        pumps(x, 0, 199, -1, -1);
        pumps(x, 2, 0, -1, -1);
        all(x, 7, 0, 11, 0);
    }

    private static void frontIsFreeInVain() {
        OtherSidesPump x = new OtherSidesPump();
        for (int i = 0; i < 3; i++) {
            x.car(0, 0, 0);
        }
        x.set(4, 1, 9);
        times(x, 0, 0, 4, 0, 1);
        times(x, 1, 0, 13, 0, 0);
        times(x, 2, 13, 17, 13, 1);
        pumps(x, 0, 3, 1, 0);
        pumps(x, 0, 4, 1, -1);
        pumps(x, 0, 12, 1, -1);
        pumps(x, 0, 13, -1, 2);
        all(x, 13, 9, 17, 0);
        // a bike stays at the back pump, in two lanes at once: both are counted
        OtherSidesPump y = new OtherSidesPump();
        y.car(2, 0, 0);
        y.car(2, 0, 3);
        y.car(0, 0, 0);
        times(y, 0, 0, 2, 0, 0);
        times(y, 1, 0, 2, 0, 0);
        times(y, 2, 2, 6, 2, 1);
        all(y, 2, 4, 6, 0);
    }

    private static void orderOfComing() {
        OtherSidesPump x = new OtherSidesPump();
        for (int i = 0; i < 4; i++) {
            x.car(0, 9 - i, 2);
        }
        x.set(3, 0, 2);
        x.set(3, 1, 1);
        x.set(3, 2, 1);
        // 3 comes first, then 1, 2 (of like ones by numbers), then 0
        times(x, 3, 0, 4, 0, 1);
        times(x, 1, 1, 5, 0, 0);
        times(x, 2, 5, 9, 4, 1);
        times(x, 0, 5, 9, 3, 0);
        all(x, 7, 1, 9, 0);
    }

    private static void longOnes() {
        OtherSidesPump x = new OtherSidesPump();
        x.car(0, 0, 0);
        x.car(3, 1, 0);
        x.car(4, 0, 0);
        x.car(0, 0, 0);
        // the trailer waits for both pumps, and so do all behind it
        times(x, 0, 0, 4, 0, 1);
        times(x, 1, 4, 13, 4, 2);
        times(x, 2, 13, 15, 13, 1);
        times(x, 3, 13, 17, 13, 0);
        pumps(x, 0, 3, -1, 0);
        pumps(x, 0, 4, 1, 1);
        pumps(x, 0, 12, 1, 1);
        pumps(x, 0, 13, 3, 2);
        all(x, 30, 2, 17, 0);
        // a long one is at both pumps, though it doesn't draw forward
        OtherSidesPump y = Due.ruledBy("takes 2; forwards 0; minds 1;");
        y.car(5, 9, 1);
        y.car(5, 0, 1);
        times(y, 0, 0, 12, 0, 2);
        times(y, 1, 12, 24, 12, 2);
        pumps(y, 1, 11, 0, 0);
        pumps(y, 1, 12, 1, 1);
        all(y, 12, 0, 24, 0);
    }

    private static void someDoNotFit() {
        OtherSidesPump x = new OtherSidesPump();
        x.car(0, 0, 1);
        x.car(5, 0, 3);
        x.car(2, 0, 1);
        x.set(3, 0, 30);
        times(x, 0, -1, -1, 170, -1);
        times(x, 1, -1, -1, 200, -1);
        times(x, 2, 0, 2, 0, 0);
        pumps(x, 1, 40, -1, -1);
        all(x, 370, 2, -1, 0);
        all(new OtherSidesPump(), 0, 0, -1, 0);
    }

    private static void endOfTheDay() {
        OtherSidesPump x = Due.ruledBy("takes 40; forwards 1; minds 1;");
        x.car(3, 2, 0);
        x.car(2, 0, 0);
        x.set(4, 0, 9);
        x.set(3, 0, 99);
        x.set(3, 1, 99);
        // 99 and 100 minutes
        times(x, 0, 99, 199, 0, 2);
        times(x, 1, 199, -1, 100, 0);
        pumps(x, 0, 98, -1, -1);
        pumps(x, 0, 198, 0, 0);
        pumps(x, 0, 199, 1, -1);
        all(x, 100, 1, -1, 0);
        x.set(0, 0, 3);
        times(x, 0, 99, -1, 0, 2);
        times(x, 1, -1, -1, 101, -1);
        pumps(x, 0, 199, 0, 0);
        all(x, 101, 0, -1, 0);
    }

    /** Takes and forwards are told in the minute in which one drives up, with so many ahead. */
    private static void toldWhenDrivingUp() {
        OtherSidesPump x = Due.ruledBy("takes 5 - ahead * 2 + minute; forwards minute = 5; minds 1;");
        x.car(0, 0, 0);
        x.car(0, 0, 0);
        x.car(0, 0, 0);
        x.set(3, 2, 6);
        times(x, 0, 0, 5, 0, 0);
        times(x, 1, 5, 15, 5, 1);
        times(x, 2, 6, 15, 0, 0);
        all(x, 5, 5, 15, 0);
        OtherSidesPump y = Due.ruledBy("takes lane * 3 + number + cap; forwards lane = 2; minds 1;");
        y.car(0, 4, 0);
        y.car(0, 4, 2);
        y.car(0, 4, 3);
        y.set(1, 2, 1);
        times(y, 0, 0, 4, 0, 0);
        times(y, 1, 0, 10, 0, 1);
        times(y, 2, 0, 14, 0, 0);
    }

    /** minds is told in the minute in which one comes, with nobody ahead, though it starts later. */
    private static void badness() {
        OtherSidesPump x = Due.ruledBy("takes 10; forwards 0; minds minute + ahead * 9 + lane;");
        x.car(0, 0, 2);
        x.car(0, 0, 2);
        x.car(0, 0, 2);
        x.set(3, 1, 1);
        x.set(3, 2, 8);
        // waited 0, 9, 12; minds 2, 3, 9 (held within 9)
        all(x, 27 + 108, 30, 30, 0);
    }

    private static void refusals() {
        OtherSidesPump x = new OtherSidesPump();
        x.car(0, 0, 0);
        int[] far = {Integer.MIN_VALUE, -1, Integer.MAX_VALUE};
        for (int n : far) {
            DUE.is(8, "times(" + n + ", 0)", x.times(n, 0), -2);
            DUE.is(8, "times(0, " + n + ")", x.times(0, n), -2);
            DUE.is(9, "pump(" + n + ", 0, 0)", x.pump(n, 0, 0), -2);
            DUE.is(9, "pump(0, " + n + ", 0)", x.pump(0, n, 0), -2);
            DUE.is(9, "pump(0, 0, " + n + ")", x.pump(0, 0, n), -2);
            DUE.is(10, "all(" + n + ")", x.all(n), -2);
        }
        DUE.is(8, "times(1, 0)", x.times(1, 0), -2);
        DUE.is(8, "times(0, 4)", x.times(0, 4), -2);
        DUE.is(9, "pump(4, 0, 0)", x.pump(4, 0, 0), -2);
        DUE.is(9, "pump(0, 200, 0)", x.pump(0, 200, 0), -2);
        DUE.is(9, "pump(0, 0, 2)", x.pump(0, 0, 2), -2);
        DUE.is(10, "all(4)", x.all(4), -2);
    }
}
