import java.lang.management.ManagementFactory;

/** All calls of a run live in one room: the constructor makes the rows, and no call makes any more. */
public final class RoomTest {
    private static final Due DUE = new Due();
    private static final com.sun.management.ThreadMXBean BEAN =
        (com.sun.management.ThreadMXBean) ManagementFactory.getThreadMXBean();

    public static void main(String[] args) {
        // once ahead, so that what the machine itself loads isn't counted
        dearCalls(full());
        long before = BEAN.getCurrentThreadAllocatedBytes();
        OtherSidesPump x = full();
        long made = BEAN.getCurrentThreadAllocatedBytes() - before;
        DUE.holds("a new object takes " + made + " bytes", made < 40000);
        before = BEAN.getCurrentThreadAllocatedBytes();
        dearCalls(x);
        made = BEAN.getCurrentThreadAllocatedBytes() - before;
        DUE.holds("the calls take " + made + " bytes", made < 2000);
        DUE.end();
    }

    private static OtherSidesPump full() {
        OtherSidesPump x = new OtherSidesPump();
        for (int i = 0; i < 6; i++) {
            x.car(i, i, i % 4);
            x.set(3, i, 99 - i);
        }
        return x;
    }

    private static void dearCalls(OtherSidesPump x) {
        for (int turn = 0; turn < 6; turn++) {
            x.sheet(0, 2, 40);
            x.sheet(1, 2, 40);
            x.copy(0, 0, 1, 0, 40);
            x.cars(1, 2, 0, 6);
            x.film(0);
            for (int car = 0; car < 6; car++) {
                x.times(car, 1);
                x.lane(car, 0);
                x.when(car, 0);
                for (int tens = 10; tens <= 60; tens += 10) {
                    x.tells(0, tens + car);
                }
            }
            x.tells(0, 1);
            x.lanes(0);
            x.blame(0);
            x.forward();
            x.chance(turn, 20, 0);
            x.pump(0, 199, 0);
            x.all(3);
            x.image();
            x.back();
            x.feed(40);
            x.text();
        }
    }
}
