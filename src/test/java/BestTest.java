/** Promises 11 to 15: lane, lanes, when, forward, blame. */
public final class BestTest {
    private static final Due DUE = new Due();

    public static void main(String[] args) {
        lane();
        lanes();
        when();
        forward();
        blame();
        refusals();
        DUE.end();
    }

    private static void lane() {
        OtherSidesPump x = new OtherSidesPump();
        x.car(0, 0, 0);
        x.car(2, 0, 0);
        // the bike would be off in 4 behind the car, in 2 elsewhere: lane 1 is the first of like ones
        DUE.is(11, "lane(1, 0)", x.lane(1, 0), 1);
        DUE.is(11, "lane(1, 1)", x.lane(1, 1), 2);
        DUE.is(11, "its lane stays", x.told(1, 2), 0);
        // the car has but lanes 0 and 2 that it fits; both with 4
        DUE.is(11, "lane(0, 0)", x.lane(0, 0), 0);
        DUE.is(11, "lane(0, 1)", x.lane(0, 1), 4);
        x.set(1, 0, 1);
        DUE.is(11, "lane(0, 0)", x.lane(0, 0), 1);
        OtherSidesPump y = Due.ruledBy("takes 40; forwards 1; minds 1;");
        y.car(3, 9, 0);
        y.set(4, 0, 9);
        y.set(3, 0, 99);
        DUE.is(11, "in none", y.lane(0, 0), -1);
        DUE.is(11, "off in none", y.lane(0, 1), -1);
        y.set(0, 0, 2);
        DUE.is(11, "in the last minute", y.lane(0, 0), 0);
        DUE.is(11, "off in the last minute", y.lane(0, 1), 199);
    }

    private static void lanes() {
        OtherSidesPump x = new OtherSidesPump();
        DUE.is(12, "no cars", x.lanes(0), 0);
        DUE.is(12, "no cars", x.lanes(1), 0);
        x.car(0, 0, 3);
        DUE.is(12, "lanes(0)", x.lanes(0), 1);
        x.set(1, 0, 1);
        DUE.is(12, "lanes(0)", x.lanes(0), 2);
        x.car(3, 0, 3);
        x.set(1, 1, 1);
        x.car(3, 0, 3);
        x.set(1, 2, 1);
        // three that fit lanes 1 and 3, two of which are long: one of them waits 4 behind the car
        DUE.is(12, "lanes(0)", x.lanes(0), 224);
        DUE.is(12, "lanes(1)", x.lanes(1), 4);
        for (int car = 0; car < 3; car++) {
            DUE.is(12, "lanes stay", x.told(car, 2), 3);
        }
        // where nobody minds, the first lanes of all will do, though cars don't fit them
        x.force(Due.text(x, "takes 4; forwards 1; minds 0;"));
        DUE.is(12, "lanes(0)", x.lanes(0), 111);
        DUE.is(12, "lanes(1)", x.lanes(1), 0);
        // minds is that of the lane in which it would be
        x.force(Due.text(x, "takes 4; forwards 1; minds 3 - lane;"));
        DUE.is(12, "lanes(0)", x.lanes(0), 244);
        DUE.is(12, "lanes(1)", x.lanes(1), 0);
    }

    private static void when() {
        OtherSidesPump x = new OtherSidesPump();
        x.car(0, 0, 0);
        x.car(3, 0, 0);
        x.set(3, 1, 2);
        // the trailer comes first, if it comes before 0, which is in no minute; 4 is the first without waiting
        DUE.is(13, "when(1, 0)", x.when(1, 0), 4);
        DUE.is(13, "when(1, 1)", x.when(1, 1), 0);
        DUE.is(13, "its minute stays", x.told(1, 3), 2);
        DUE.is(13, "when(0, 0)", x.when(0, 0), 0);
        x.set(1, 1, 1);
        DUE.is(13, "where it doesn't fit", x.when(1, 0), 99);
        DUE.is(13, "where it doesn't fit", x.when(1, 1), 101);
    }

    private static void forward() {
        OtherSidesPump x = Due.ruledBy("takes 4; forwards 0; minds 2;");
        DUE.is(14, "no cars", x.forward(), 0);
        x.car(0, 0, 0);
        x.car(0, 0, 0);
        DUE.is(14, "forward()", x.forward(), -8);
        DUE.is(14, "all stays", x.all(0), 8);
        DUE.is(14, "told stays", x.told(0, 8), 0);
        // a bike stays at the back pump all the same
        OtherSidesPump y = Due.ruledBy("takes 4; forwards 0; minds 2;");
        y.car(2, 0, 0);
        y.car(2, 0, 0);
        DUE.is(14, "bikes", y.forward(), 0);
        // it may be worse, too: the second one, at the back pump, then takes longer
        OtherSidesPump z = Due.ruledBy("takes 1 + ahead * 30; forwards 0; minds 1;");
        for (int i = 0; i < 3; i++) {
            z.car(0, 0, 0);
        }
        DUE.is(14, "all", z.all(0), 3);
        DUE.is(14, "worse", z.forward(), 28);
    }

    private static void blame() {
        OtherSidesPump x = new OtherSidesPump();
        DUE.is(15, "no cars", x.blame(0), -1);
        DUE.is(15, "no cars", x.blame(1), 0);
        x.car(0, 0, 1);
        // who doesn't fit is bad off by itself, which is nobody's fault
        DUE.is(15, "blame(0)", x.blame(0), -1);
        DUE.is(15, "blame(1)", x.blame(1), 200);
        for (int i = 0; i < 3; i++) {
            x.car(0, 0, 0);
        }
        // 3 waits 4; without 1 or without 2 it waits 0: of like ones the first
        DUE.is(15, "blame(0)", x.blame(0), 1);
        DUE.is(15, "blame(1)", x.blame(1), 200);
        x.set(4, 2, 6);
        // 3 waits 10 for 2, at the back pump: without 1, 2 is at the front and 3 behind it
        DUE.is(15, "blame(0)", x.blame(0), 1);
        DUE.is(15, "blame(1)", x.blame(1), 200);
        // two wait for the lorry, and one of them for the other one: the lorry is more to blame
        OtherSidesPump y = new OtherSidesPump();
        y.car(2, 0, 0);
        y.car(5, 0, 0);
        y.car(2, 0, 0);
        DUE.is(15, "all", y.all(0), 2 + 16);
        DUE.is(15, "blame(0)", y.blame(0), 1);
        DUE.is(15, "blame(1)", y.blame(1), 2);
        DUE.is(15, "cars stay", y.count(0), 3);
        DUE.is(15, "all stays", y.all(0), 18);
    }

    private static void refusals() {
        OtherSidesPump x = new OtherSidesPump();
        x.car(0, 0, 0);
        int[] far = {Integer.MIN_VALUE, -1, 2, Integer.MAX_VALUE};
        for (int n : far) {
            DUE.is(11, "lane(" + n + ", 0)", x.lane(n, 0), -2);
            DUE.is(11, "lane(0, " + n + ")", x.lane(0, n), -2);
            DUE.is(12, "lanes(" + n + ")", x.lanes(n), -2);
            DUE.is(13, "when(" + n + ", 0)", x.when(n, 0), -2);
            DUE.is(13, "when(0, " + n + ")", x.when(0, n), -2);
            DUE.is(15, "blame(" + n + ")", x.blame(n), -2);
        }
        DUE.is(11, "lane(1, 0)", x.lane(1, 0), -2);
        DUE.is(13, "when(1, 0)", x.when(1, 0), -2);
    }
}
