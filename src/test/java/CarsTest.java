/** Promises 1 to 4: a new object, set, car, told. */
public final class CarsTest {
    private static final Due DUE = new Due();

    public static void main(String[] args) {
        newObject();
        cars();
        setAndTold();
        refusals();
        fits();
        takes();
        drawsForward();
        mindsAndBounds();
        DUE.end();
    }

    private static void newObject() {
        OtherSidesPump x = new OtherSidesPump();
        int[] counts = {0, 1, 0, 0};
        for (int what = 0; what < counts.length; what++) {
            DUE.is(1, "count(" + what + ")", x.count(what), counts[what]);
        }
        DUE.is(1, "told(0, 0)", x.told(0, 0), -2);
        DUE.is(1, "back()", x.back(), -3);
        for (int sheet = 0; sheet < 4; sheet++) {
            DUE.is(1, "cell(" + sheet + ", 0, 0)", x.cell(sheet, 0, 0), -11);
        }
    }

    private static void cars() {
        OtherSidesPump x = new OtherSidesPump();
        int[][] wrong = {{-1, 0, 0}, {6, 0, 0}, {0, -1, 0}, {0, 10, 0}, {0, 0, -1}, {0, 0, 4}};
        for (int[] w : wrong) {
            DUE.is(3, "car wrong", x.car(w[0], w[1], w[2]), -2);
        }
        for (int i = 0; i < 6; i++) {
            DUE.is(3, "car", x.car(i, 9 - i, i % 4), i);
        }
        DUE.is(3, "car when full", x.car(0, 0, 0), -4);
        for (int[] w : wrong) {
            DUE.is(3, "car wrong when full", x.car(w[0], w[1], w[2]), -2);
        }
        DUE.is(3, "count(0)", x.count(0), 6);
        for (int i = 0; i < 6; i++) {
            int[] want = {9 - i, 0, i % 4, 0, 0, i};
            for (int what = 0; what < want.length; what++) {
                DUE.is(3, "told(" + i + ", " + what + ")", x.told(i, what), want[what]);
            }
        }
    }

    private static void setAndTold() {
        OtherSidesPump x = new OtherSidesPump();
        x.car(0, 3, 2);
        x.car(1, 4, 1);
        int[] highest = {9, 1, 3, 99, 9};
        int[] first = {4, 0, 1, 0, 0};
        for (int what = 0; what < 5; what++) {
            DUE.is(2, "set(" + what + ", 1, top)", x.set(what, 1, highest[what]), first[what]);
            DUE.is(4, "told(1, " + what + ")", x.told(1, what), highest[what]);
            DUE.is(2, "set above", x.set(what, 1, highest[what] + 1), -2);
            DUE.is(2, "set below", x.set(what, 1, -1), -2);
            DUE.is(2, "set(" + what + ", 1, 0)", x.set(what, 1, 0), highest[what]);
            DUE.is(4, "told(1, " + what + ")", x.told(1, what), 0);
        }
        DUE.is(2, "car 0 stays", x.told(0, 0), 3);
        DUE.is(2, "car 0 stays", x.told(0, 2), 2);
    }

    private static void refusals() {
        OtherSidesPump x = new OtherSidesPump();
        x.car(0, 0, 0);
        int[] whats = {-1, 5, Integer.MIN_VALUE, Integer.MAX_VALUE};
        for (int what : whats) {
            DUE.is(2, "set(" + what + ", 0, 0)", x.set(what, 0, 0), -2);
        }
        int[] cars = {-1, 1, Integer.MIN_VALUE, Integer.MAX_VALUE};
        for (int car : cars) {
            DUE.is(2, "set(0, " + car + ", 0)", x.set(0, car, 0), -2);
            DUE.is(4, "told(" + car + ", 0)", x.told(car, 0), -2);
        }
        int[] toldWhats = {-1, 11, Integer.MIN_VALUE, Integer.MAX_VALUE};
        for (int what : toldWhats) {
            DUE.is(4, "told(0, " + what + ")", x.told(0, what), -2);
        }
    }

    private static void fits() {
        int[][][] want = {
            {{1, 0, 1, 0}, {0, 1, 0, 1}}, {{1, 0, 1, 0}, {0, 1, 0, 1}}, {{1, 1, 1, 1}, {1, 1, 1, 1}},
            {{1, 0, 1, 0}, {0, 1, 0, 1}}, {{1, 1, 1, 1}, {1, 1, 1, 1}}, {{1, 1, 1, 0}, {1, 1, 1, 0}}};
        OtherSidesPump x = new OtherSidesPump();
        for (int kind = 0; kind < 6; kind++) {
            x.car(kind, 0, 0);
            DUE.is(4, "long " + kind, x.told(kind, 7), kind == 3 || kind == 5 ? 1 : 0);
            for (int cap = 0; cap < 2; cap++) {
                for (int lane = 0; lane < 4; lane++) {
                    x.set(1, kind, cap);
                    x.set(2, kind, lane);
                    DUE.is(4, "fits " + kind + " " + cap + " " + lane, x.told(kind, 6), want[kind][cap][lane]);
                }
            }
        }
    }

    private static void takes() {
        OtherSidesPump x = new OtherSidesPump();
        for (int kind = 0; kind < 6; kind++) {
            x.car(kind, 7, 0);
        }
        checkTakes(x, new int[] {4, 8, 2, 15, 2, 14});
        for (int car = 0; car < 6; car++) {
            x.set(4, car, 5);
        }
        checkTakes(x, new int[] {9, 18, 4, 25, 4, 19});
        x.force(Due.text(x, "takes 0-1; forwards 0; minds 0;"));
        checkTakes(x, new int[] {5, 10, 2, 17, 2, 15});
        for (int car = 0; car < 6; car++) {
            x.set(4, car, 0);
            x.set(0, car, 0);
        }
        checkTakes(x, new int[] {1, 1, 1, 1, 1, 10});
        x.force(Due.text(x, "takes 41; forwards 0; minds 0;"));
        checkTakes(x, new int[] {40, 80, 20, 80, 20, 50});
        x.force(Due.text(x, "takes 1; forwards 0; minds 0;"));
        checkTakes(x, new int[] {1, 2, 1, 2, 1, 11});
    }

    private static void checkTakes(OtherSidesPump x, int[] want) {
        for (int car = 0; car < want.length; car++) {
            DUE.is(4, "told(" + car + ", 9)", x.told(car, 9), want[car]);
        }
    }

    private static void drawsForward() {
        OtherSidesPump x = new OtherSidesPump();
        for (int kind = 0; kind < 6; kind++) {
            x.car(kind, 4, 0);
        }
        checkDraws(x, new int[] {1, 1, 0, 1, 1, 0});
        x.set(0, 5, 5);
        checkDraws(x, new int[] {1, 1, 0, 1, 1, 1});
        x.force(Due.text(x, "takes 0; forwards 0-3; minds 0;"));
        checkDraws(x, new int[] {1, 1, 0, 1, 1, 1});
        x.force(Due.text(x, "takes 0; forwards 0; minds 0;"));
        checkDraws(x, new int[] {0, 0, 0, 0, 1, 0});
    }

    private static void checkDraws(OtherSidesPump x, int[] want) {
        for (int car = 0; car < want.length; car++) {
            DUE.is(4, "told(" + car + ", 8)", x.told(car, 8), want[car]);
        }
    }

    /** minds is held within 0 .. 9, and told in the minute in which one comes, with nobody ahead. */
    private static void mindsAndBounds() {
        OtherSidesPump x = Due.ruledBy("takes minute; forwards minute = 7; minds minute - ahead * 5;");
        x.car(0, 0, 0);
        x.car(0, 0, 0);
        int[] minutes = {0, 3, 7, 9, 10, 40, 41, 99};
        for (int minute : minutes) {
            x.set(3, 1, minute);
            DUE.is(4, "draws in " + minute, x.told(1, 8), minute == 7 ? 1 : 0);
            DUE.is(4, "takes in " + minute, x.told(1, 9), Math.max(1, Math.min(40, minute)));
            DUE.is(4, "minds in " + minute, x.told(1, 10), Math.min(9, minute));
        }
        x.force(Due.text(x, "takes 1; forwards 1; minds - 1;"));
        DUE.is(4, "minds below 0", x.told(1, 10), 0);
    }
}
