/** Stations and sheets that several tests make. */
final class Station {
    private Station() {
    }

    /** A station whose rule has these parts. */
    static OtherSidesPump ruled(String takes, String forwards, String minds) {
        return Due.ruledBy("takes " + takes + ";forwards " + forwards + ";minds " + minds + ";");
    }

    /** A car with number 0: its place. */
    static int car(OtherSidesPump x, int kind, int lane, int comes) {
        int car = x.car(kind, 0, lane);
        x.set(3, car, comes);
        return car;
    }

    /** So many cars of a kind, all in a lane from minute 0 on. */
    static OtherSidesPump with(int howMany, int kind, int lane) {
        OtherSidesPump x = new OtherSidesPump();
        for (int i = 0; i < howMany; i++) {
            x.car(kind, 0, lane);
        }
        return x;
    }

    /** A sheet becomes these numbers. */
    static void row(OtherSidesPump x, int sheet, int sort, int... items) {
        x.sheet(sheet, sort, items.length);
        for (int i = 0; i < items.length; i++) {
            x.cell(sheet, i, items[i]);
        }
    }

    /** Texts till there is room for no more. */
    static void fillTexts(OtherSidesPump x) {
        for (int i = x.count(1); i < 6; i++) {
            Due.text(x, "takes " + i + ";forwards 0;minds 2;");
        }
    }

    /** An int of any size as an E, since a number in a text has four digits at most. */
    static String asE(int v) {
        long rest = Math.abs((long) v);
        String e = rest / 1000000 + "*1000*1000+" + rest / 1000 % 1000 + "*1000+" + rest % 1000;
        return v < 0 ? "0-(" + e + ")" : e;
    }
}
