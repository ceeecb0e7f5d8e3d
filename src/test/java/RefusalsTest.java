import java.util.ArrayList;
import java.util.List;

/**
 * "Refusals, the first that the call's words name; they change nothing": each refused call is made in a station
 * that has nothing, one that has something and two that are full. Behind it, all that can be asked is asked of that
 * station and of its twin, to which the call was not made. The same goes for calls that just ask. No station gets
 * more than 512 calls, so there are many views of it, and two that are full in different ways.
 */
public final class RefusalsTest {
    private static final Sentences DOC = new Sentences();
    private static final int LEAST = Sentences.LEAST, MOST = Sentences.MOST;
    private static final long NO = -4611686018427387904L;
    private static final int NOTHING = 0, SOMETHING = 1, FULL_YARD = 2, FULL_TAPE = 3, STATIONS = 4;
    private static final String[] NAMES = {"nothing", "something", "all cars and sheets", "all texts and bytes"};

    interface Call {
        long on(OtherSidesPump x);
    }

    private record Asked(String name, Call call, long due) {
    }

    public static void main(String[] args) {
        DOC.says(0, "Refusals, the first that the call's words name; they change nothing:");
        for (int station = NOTHING; station < STATIONS; station++) {
            for (Asked asked : refusedAnywhere()) {
                changesNothing(station, asked);
            }
        }
        for (Asked asked : refusedWithNothing()) {
            changesNothing(NOTHING, asked);
        }
        for (Asked asked : refusedWithSomething()) {
            changesNothing(SOMETHING, asked);
        }
        for (Asked asked : refusedInFullYard()) {
            changesNothing(FULL_YARD, asked);
        }
        for (Asked asked : refusedWithFullTape()) {
            changesNothing(FULL_TAPE, asked);
        }
        DOC.says(0, "which lane is best for one, which for all, when to come, what it is worth if all draw forward");
        for (int station = NOTHING; station < STATIONS; station++) {
            for (Call call : questions()) {
                isLikeItsTwin("a question", station, call);
            }
            inAnyOrder(station);
        }
        DOC.end();
    }

    private static void changesNothing(int station, Asked asked) {
        String name = asked.name + " with " + NAMES[station];
        DOC.is(name, asked.call.on(station(station)), asked.due);
        isLikeItsTwin(name, station, asked.call);
    }

    /** Each view may change the station that it looks at, so each has a pair of its own. */
    private static void isLikeItsTwin(String name, int station, Call call) {
        for (int view = 0; view < VIEWS; view++) {
            OtherSidesPump x = station(station);
            call.on(x);
            List<Long> seen = view(view, x);
            List<Long> due = view(view, station(station));
            int first = firstUnlike(seen, due);
            DOC.is(name + ", behind it: the first thing that is otherwise in view " + view, first, -1);
        }
    }

    /** What a question is answered does not depend on the question ahead of it. */
    private static void inAnyOrder(int station) {
        List<Call> questions = questions();
        for (int i = 0; i < questions.size(); i++) {
            long due = questions.get(i).on(station(station));
            OtherSidesPump x = null;
            for (int j = 0; j < questions.size(); j++) {
                x = j % 50 == 0 ? station(station) : x;
                questions.get(j).on(x);
                DOC.is("question " + i + " behind question " + j, questions.get(i).on(x), due);
            }
        }
    }

    private static int firstUnlike(List<Long> seen, List<Long> due) {
        for (int i = 0; i < Math.max(seen.size(), due.size()); i++) {
            if (i >= seen.size() || i >= due.size() || !seen.get(i).equals(due.get(i))) {
                return i;
            }
        }
        return -1;
    }

    // ---- the stations

    private static OtherSidesPump station(int which) {
        OtherSidesPump x = new OtherSidesPump();
        if (which == NOTHING) {
            return x;
        }
        int cars = which == FULL_YARD ? 6 : 3;
        for (int i = 0; i < cars; i++) {
            x.car((i + 3) % 6, i + 1, 1 + i % 2);
            x.set(1, i, 1);
            x.set(3, i, 3 * i + 1);
            x.set(4, i, i);
            if (i == cars - 2 || which == FULL_YARD) {
                x.image();
            }
        }
        int texts = which == FULL_TAPE ? 5 : 2;
        for (int i = 0; i < texts; i++) {
            Due.text(x, "takes " + (i + 5) + ";forwards " + i + ";minds " + (i + 2) + ";");
        }
        x.force(texts - 1);
        x.set(0, 0, 7);
        x.set(3, 1, 2);
        Due.feed(x, which == FULL_TAPE ? " ".repeat(160) : "takes 9;forwards pie;minds 4;");
        layOff(x, 0, 0, which == FULL_YARD ? 40 : 7);
        layOff(x, 1, 1, which == FULL_YARD ? 40 : cars);
        layOff(x, 2, 2, which == FULL_YARD ? 40 : 4);
        if (which == FULL_YARD) {
            layOff(x, 3, 2, 40);
        }
        return x;
    }

    /** Item i of a sheet is when car i (and so on, over and over) is off, so that any other number there is seen. */
    private static void layOff(OtherSidesPump x, int sheet, int sort, int n) {
        x.sheet(sheet, sort, n);
        int cars = x.count(0);
        for (int i = 0; i < cars; i++) {
            x.cell(sheet, i, x.times(i, 1));
        }
        for (int laid = cars; laid < n; laid *= 2) {
            x.copy(sheet, 0, sheet, laid, Math.min(laid, n - laid));
        }
    }

    // ---- what can be seen of a station

    private static final int VIEWS = 22;

    private static List<Long> view(int which, OtherSidesPump x) {
        List<Long> seen = new ArrayList<>();
        if (which < 7) {
            seeText(x, which, seen);
        } else if (which < 11) {
            seeNumbers(x, which - 7, seen);
        } else if (which < 15) {
            seeSize(x, which - 11, seen);
        } else {
            switch (which) {
                case 15 -> seeCars(x, seen);
                case 16 -> seeTimes(x, seen);
                case 17 -> seePumps(x, seen);
                case 18 -> seeTape(x, seen);
                case 19 -> seeImage(x, seen);
                case 20 -> seeRoom(x, seen);
                default -> seeRoomForTexts(x, seen);
            }
        }
        return seen;
    }

    private static void seeCars(OtherSidesPump x, List<Long> seen) {
        for (int what = 0; what < 4; what++) {
            seen.add((long) x.count(what));
        }
        for (int car = 0; car < 7; car++) {
            for (int what = 0; what <= 10; what++) {
                seen.add((long) x.told(car, what));
            }
        }
    }

    private static void seeTimes(OtherSidesPump x, List<Long> seen) {
        for (int what = 0; what < 4; what++) {
            seen.add((long) x.all(what));
            for (int car = 0; car < 6; car++) {
                seen.add((long) x.times(car, what));
            }
        }
        seen.add((long) x.forward());
        seen.add((long) x.blame(0));
        seen.add((long) x.drawn(1));
    }

    private static void seePumps(OtherSidesPump x, List<Long> seen) {
        for (int minute = 0; minute < 200; minute += 3) {
            seen.add((long) x.pump(1, minute, 0));
            seen.add((long) x.pump(1, minute, 1));
        }
    }

    /** What the tape has is seen by what a text of it tells. */
    private static void seeTape(OtherSidesPump x, List<Long> seen) {
        seen.add((long) x.text());
        seen.add((long) x.force(x.count(1) - 1));
        seeCars(x, seen);
    }

    private static void seeText(OtherSidesPump x, int text, List<Long> seen) {
        seen.add((long) x.force(text));
        seeCars(x, seen);
    }

    private static void seeImage(OtherSidesPump x, List<Long> seen) {
        seen.add((long) x.back());
        seeCars(x, seen);
    }

    /** Of which sort a sheet is, and whether its numbers are the cars' as laid. */
    private static void seeNumbers(OtherSidesPump x, int sheet, List<Long> seen) {
        int other = (sheet + 1) % 4;
        int cars = x.count(0);
        for (int sort = 0; sort < 3; sort++) {
            x.sheet(other, sort, cars);
            for (int i = 0; i <= 40; i += Math.max(1, cars)) {
                seen.add((long) x.copy(sheet, i, other, 0, Math.max(1, cars)));
                seen.add((long) x.copy(sheet, i, other, 0, 1));
                seen.add((long) x.tells(other, 0));
            }
        }
    }

    /** How many items a sheet has. */
    private static void seeSize(OtherSidesPump x, int sheet, List<Long> seen) {
        for (int i = 0; i <= 41; i++) {
            seen.add((long) x.cell(sheet, i, 0));
        }
    }

    /** What may come yet: cars, bytes. */
    private static void seeRoom(OtherSidesPump x, List<Long> seen) {
        for (int i = 0; i < 7; i++) {
            seen.add((long) x.car(i, i, i % 4));
            seen.add((long) x.feed(32));
        }
        seeCars(x, seen);
    }

    private static void seeRoomForTexts(OtherSidesPump x, List<Long> seen) {
        for (int i = 0; i < 4; i++) {
            seen.add((long) x.text());
            seen.add((long) Due.text(x, "takes 1;forwards 1;minds 1;"));
            seen.add((long) x.count(1));
        }
    }

    // ---- the calls

    private static void add(List<Asked> to, long due, String name, Call call) {
        to.add(new Asked(name, call, due));
    }

    /** What is refused whatever there is. */
    private static List<Asked> refusedAnywhere() {
        List<Asked> calls = new ArrayList<>();
        int[] far = {LEAST, -1, 6, 40, 200, 256, MOST};
        for (int n : far) {
            add(calls, -2, "set of " + n, x -> x.set(0, n, 5));
            add(calls, -2, "car of kind " + n, x -> x.car(n, 5, 1));
            add(calls, -2, "car in lane " + n, x -> x.car(0, 5, n));
            add(calls, -2, "told of " + n, x -> x.told(n, 0));
            add(calls, -2, "force " + n, x -> x.force(n));
            add(calls, -2, "times of " + n, x -> x.times(n, 0));
            add(calls, -2, "times, what " + n, x -> x.times(0, n));
            add(calls, -2, "pump of lane " + n, x -> x.pump(n, 0, 0));
            add(calls, -2, "pump, what " + n, x -> x.pump(0, 0, n));
            add(calls, -2, "all " + n, x -> x.all(n));
            add(calls, -2, "lane of " + n, x -> x.lane(n, 0));
            add(calls, -2, "lane, what " + n, x -> x.lane(0, n));
            add(calls, -2, "lanes " + n, x -> x.lanes(n));
            add(calls, -2, "when of " + n, x -> x.when(n, 0));
            add(calls, -2, "when, what " + n, x -> x.when(0, n));
            add(calls, -2, "blame " + n, x -> x.blame(n));
            add(calls, -2, "tells by " + n, x -> x.tells(n, 0));
            add(calls, -2, "film " + n, x -> x.film(n));
            add(calls, NO, "chance, part " + n, x -> x.chance(0, 1, n));
            add(calls, -2, "count " + n, x -> x.count(n));
            add(calls, -2, "sheet " + n, x -> x.sheet(n, 0, 5));
            add(calls, -2, "sheet " + n + " missing", x -> x.sheet(n, -1, 5));
            add(calls, -2, "cell of " + n, x -> x.cell(n, 0, 5));
            add(calls, -2, "copy from " + n, x -> x.copy(n, 0, 0, 0, 1));
            add(calls, -2, "copy to " + n, x -> x.copy(0, 0, n, 0, 1));
            add(calls, -2, "cars by " + n, x -> x.cars(n, 0, 0, 1));
            add(calls, -2, "cars of sort " + n, x -> x.cars(0, n, 0, 1));
            add(calls, -2, "taken for " + n, x -> x.taken(0, n));
        }
        int[] above = {LEAST, -1, 10, 100, MOST};
        for (int n : above) {
            add(calls, -2, "car with number " + n, x -> x.car(0, n, 0));
            add(calls, -2, "set number " + n, x -> x.set(0, 0, n));
            add(calls, -2, "set cap " + n, x -> x.set(1, 0, n));
            add(calls, -2, "set lane " + n, x -> x.set(2, 0, n));
            add(calls, -2, "set pies " + n, x -> x.set(4, 0, n));
            add(calls, -2, "set, what " + n, x -> x.set(n, 0, 1));
            add(calls, -2, "cars, so many: " + n, x -> x.cars(0, 0, 0, n));
        }
        add(calls, -2, "set, what 5", x -> x.set(5, 0, 1));
        add(calls, -2, "set minute -1", x -> x.set(3, 0, -1));
        add(calls, -2, "set minute 100", x -> x.set(3, 0, 100));
        add(calls, -2, "set cap 2", x -> x.set(1, 0, 2));
        add(calls, -2, "set lane 4", x -> x.set(2, 0, 4));
        add(calls, -2, "told, what 11", x -> x.told(0, 11));
        add(calls, -2, "feed -1", x -> x.feed(-1));
        add(calls, -2, "feed 256", x -> x.feed(256));
        add(calls, -2, "pump of minute 200", x -> x.pump(0, 200, 0));
        add(calls, -2, "pump of minute -1", x -> x.pump(0, -1, 0));
        add(calls, -2, "tells 2", x -> x.tells(0, 2));
        add(calls, -2, "tells 70", x -> x.tells(0, 70));
        add(calls, -2, "tells 16", x -> x.tells(0, 16));
        add(calls, NO, "chance, n 0", x -> x.chance(0, 0, 0));
        add(calls, NO, "chance, n 21", x -> x.chance(0, 21, 0));
        add(calls, -2, "sheet of sort 3", x -> x.sheet(0, 3, 5));
        add(calls, -2, "sheet of sort -2", x -> x.sheet(0, -2, 5));
        add(calls, -2, "sheet of sort 3, size -1", x -> x.sheet(0, 3, -1));
        for (int sort = 0; sort < 3; sort++) {
            int s = sort;
            add(calls, -2, "sheet of 41", x -> x.sheet(s, s, 41));
            add(calls, -14, "sheet of -1", x -> x.sheet(s, s, -1));
            add(calls, -14, "sheet of the least", x -> x.sheet(s, s, LEAST));
        }
        add(calls, -2, "cars of sort 3", x -> x.cars(0, 3, 0, 1));
        add(calls, -2, "cars, 7 of them", x -> x.cars(0, 0, 0, 7));
        add(calls, -11, "taken: 6", x -> x.taken(6, 0));
        add(calls, -2, "taken: 6 for 6", x -> x.taken(6, 6));
        return calls;
    }

    private static List<Asked> refusedWithNothing() {
        List<Asked> calls = new ArrayList<>();
        add(calls, -2, "set(0, 0, 0)", x -> x.set(0, 0, 0));
        add(calls, -2, "told(0, 0)", x -> x.told(0, 0));
        add(calls, -2, "force(1)", x -> x.force(1));
        add(calls, -2, "times(0, 0)", x -> x.times(0, 0));
        add(calls, -2, "lane(0, 0)", x -> x.lane(0, 0));
        add(calls, -2, "when(0, 0)", x -> x.when(0, 0));
        add(calls, -2, "tells(0, 10)", x -> x.tells(0, 10));
        add(calls, -11, "tells(0, 0)", x -> x.tells(0, 0));
        add(calls, -11, "tells(3, 1)", x -> x.tells(3, 1));
        add(calls, -3, "back()", OtherSidesPump::back);
        add(calls, -11, "cell(0, 0, 1)", x -> x.cell(0, 0, 1));
        add(calls, -11, "copy(0, 0, 1, 0, 0)", x -> x.copy(0, 0, 1, 0, 0));
        add(calls, -11, "cars(0, 0, 0, 1)", x -> x.cars(0, 0, 0, 1));
        add(calls, -11, "taken(0, 0)", x -> x.taken(0, 0));
        // an empty tape is no refusal, and leaves all as it was, too
        add(calls, -100, "text()", OtherSidesPump::text);
        return calls;
    }

    /** Sheet 0 is of seven bytes, 1 of three shorts, 2 of four ints, 3 is missing; there are three cars. */
    private static List<Asked> refusedWithSomething() {
        List<Asked> calls = new ArrayList<>();
        add(calls, -2, "set(0, 3, 1)", x -> x.set(0, 3, 1));
        add(calls, -2, "told(3, 0)", x -> x.told(3, 0));
        add(calls, -2, "force(3)", x -> x.force(3));
        add(calls, -2, "lane(3, 0)", x -> x.lane(3, 0));
        add(calls, -2, "when(3, 0)", x -> x.when(3, 0));
        add(calls, -2, "tells(3, 13)", x -> x.tells(3, 13));
        add(calls, -11, "tells(3, 12)", x -> x.tells(3, 12));
        add(calls, -2, "tells(0, 12)", x -> x.tells(0, 12));
        add(calls, -2, "tells(2, 1)", x -> x.tells(2, 1));
        int[] outside = {LEAST, -1, 7, 40, MOST};
        for (int i : outside) {
            add(calls, -12, "cell(0, " + i + ", 1)", x -> x.cell(0, i, 1));
            add(calls, -11, "cell(3, " + i + ", 1)", x -> x.cell(3, i, 1));
            add(calls, -12, "copy(0, " + i + ", 0, 0, 1)", x -> x.copy(0, i, 0, 0, 1));
            add(calls, -12, "copy(0, 0, 0, " + i + ", 1)", x -> x.copy(0, 0, 0, i, 1));
            add(calls, -12, "cars(0, 0, " + i + ", 1)", x -> x.cars(0, 0, i, 1));
            add(calls, -13, "cars(0, 1, " + i + ", 1)", x -> x.cars(0, 1, i, 1));
        }
        add(calls, -12, "copy(0, 0, 0, 0, -1)", x -> x.copy(0, 0, 0, 0, -1));
        // none of them comes, though some would have room
        add(calls, -12, "copy(0, 0, 0, 1, 7)", x -> x.copy(0, 0, 0, 1, 7));
        add(calls, -12, "copy(0, 1, 0, 0, 7)", x -> x.copy(0, 1, 0, 0, 7));
        add(calls, -13, "copy(0, 0, 1, 0, 1)", x -> x.copy(0, 0, 1, 0, 1));
        add(calls, -13, "copy(1, 0, 2, 0, 3)", x -> x.copy(1, 0, 2, 0, 3));
        add(calls, -11, "copy(0, 0, 3, 0, 1)", x -> x.copy(0, 0, 3, 0, 1));
        add(calls, -11, "copy(3, 0, 0, 0, 1)", x -> x.copy(3, 0, 0, 0, 1));
        add(calls, -13, "cars(2, 1, 0, 1)", x -> x.cars(2, 1, 0, 1));
        add(calls, -11, "cars(3, 2, 0, 1)", x -> x.cars(3, 2, 0, 1));
        add(calls, -13, "taken(0, 2)", x -> x.taken(0, 2));
        add(calls, -11, "taken(3, 2)", x -> x.taken(3, 2));
        return calls;
    }

    /** Six cars, and four sheets of forty: bytes, shorts, ints, ints. */
    private static List<Asked> refusedInFullYard() {
        List<Asked> calls = new ArrayList<>();
        add(calls, -4, "car(5, 9, 3)", x -> x.car(5, 9, 3));
        add(calls, -4, "car(0, 0, 0)", x -> x.car(0, 0, 0));
        add(calls, -2, "tells(0, 16)", x -> x.tells(0, 16));
        add(calls, -2, "tells(0, 15)", x -> x.tells(0, 15));
        add(calls, -12, "cell(2, 40, 1)", x -> x.cell(2, 40, 1));
        add(calls, -12, "copy(2, 0, 3, 0, 41)", x -> x.copy(2, 0, 3, 0, 41));
        add(calls, -12, "copy(2, 0, 3, 1, 40)", x -> x.copy(2, 0, 3, 1, 40));
        add(calls, -12, "cars(2, 2, 38, 1)", x -> x.cars(2, 2, 38, 1));
        // nobody has room, so nobody comes
        add(calls, 0, "cars(2, 2, 37, 1)", x -> x.cars(2, 2, 37, 1));
        return calls;
    }

    private static List<Asked> refusedWithFullTape() {
        List<Asked> calls = new ArrayList<>();
        add(calls, -4, "feed(0)", x -> x.feed(0));
        add(calls, -4, "feed(255)", x -> x.feed(255));
        add(calls, -4, "text()", OtherSidesPump::text);
        return calls;
    }

    /** Calls that just ask. */
    private static List<Call> questions() {
        List<Call> calls = new ArrayList<>();
        for (int car = 0; car < 3; car++) {
            for (int what = 0; what < 4; what++) {
                int c = car;
                int w = what;
                calls.add(x -> x.told(c, w + 7));
                calls.add(x -> x.times(c, w));
                calls.add(x -> x.lane(c, w));
                calls.add(x -> x.when(c, w));
            }
            for (int tens = 10; tens <= 60; tens += 10) {
                int w = tens + car;
                calls.add(x -> x.tells(1, w));
            }
        }
        for (int what = 0; what < 4; what++) {
            int w = what;
            calls.add(x -> x.all(w));
            calls.add(x -> x.lanes(w));
            calls.add(x -> x.blame(w));
            calls.add(x -> x.count(w));
            calls.add(x -> x.tells(1, w));
            calls.add(x -> x.taken(w, 0));
            calls.add(x -> x.pump(w, 5, 1));
        }
        calls.add(OtherSidesPump::forward);
        calls.add(x -> x.drawn(77));
        calls.add(x -> x.chance(5, 20, 0));
        calls.add(x -> x.copy(0, 0, 0, 0, 3));
        calls.add(x -> x.copy(1, 2, 1, 3, 0));
        calls.add(x -> x.cars(0, 0, 99, 0));
        return calls;
    }
}
