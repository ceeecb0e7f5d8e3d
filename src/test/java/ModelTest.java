import java.util.Random;

/** Random runs of calls on the class and on the model, whose answers must be the same. */
public final class ModelTest {
    private static final Due DUE = new Due();
    private static final int RUNS = 400, CALLS = 300;

    private final Random random;
    private final OtherSidesPump x = new OtherSidesPump();
    private final Model m = new Model();

    private ModelTest(long seed) {
        random = new Random(seed);
    }

    public static void main(String[] args) {
        for (int run = 0; run < RUNS; run++) {
            new ModelTest(run).run(run);
        }
        for (int seed = 0; seed < 20000; seed++) {
            new ModelTest(seed).oneText();
        }
        for (int seed = 0; seed < 300; seed++) {
            new ModelTest(seed).crowdedDay(seed);
        }
        DUE.end();
    }

    private void run(int run) {
        int calls = 0;
        while (calls < CALLS) {
            if (random.nextInt(12) == 0) {
                String text = randomText();
                calls += text.length();
                feedBoth(text);
                check(run, 21, 0, 0, 0, 0, 0);
                check(run, 22, random.nextInt(7), 0, 0, 0, 0);
            }
            check(run, random.nextInt(20) == 0 ? 14 : random.nextInt(27), number(), number(), number(), number(), number());
            calls++;
        }
    }

    private void oneText() {
        String text = randomText();
        feedBoth(text);
        DUE.is(6, "text of \"" + text.replace("\n", "\\n") + "\"", x.text(), m.text());
        x.force(1);
        m.force(1);
        for (int car = 0; car < 3; car++) {
            int a = random.nextInt(6), b = random.nextInt(10), c = random.nextInt(4);
            x.car(a, b, c);
            m.car(a, b, c);
            for (int what = 1; what < 5; what++) {
                int v = random.nextInt(10);
                x.set(what, car, v);
                m.set(what, car, v);
            }
            for (int what = 8; what <= 10; what++) {
                DUE.is(6, "told by \"" + text + "\"", x.told(car, what), m.told(car, what));
            }
        }
    }

    /** Many cars by a good rule in few lanes, of which all is asked that can be. */
    private void crowdedDay(int seed) {
        // an object answers 512 calls, of which the questions below need some 180
        int calls = 0;
        for (int i = 0; i < 20 && m.count(1) < 3 && calls < 150; i++) {
            String text = randomText();
            calls += text.length() + 1;
            feedBoth(text);
            DUE.is(6, "text", x.text(), m.text());
        }
        DUE.is(7, "force", x.force(seed % 3), m.force(seed % 3));
        int busy = random.nextInt(4);
        for (int car = 0; car < 6 - seed % 3; car++) {
            int lane = random.nextInt(3) == 0 ? random.nextInt(4) : busy;
            int kind = random.nextInt(6);
            DUE.is(3, "car", x.car(kind, car, lane), m.car(kind, car, lane));
            int[] features = {random.nextInt(10), random.nextInt(4) == 0 ? 1 - lane % 2 : lane % 2, lane,
                random.nextInt(random.nextInt(4) == 0 ? 100 : 12), random.nextInt(10)};
            for (int what = 0; what < 5; what++) {
                DUE.is(2, "set", x.set(what, car, features[what]), m.set(what, car, features[what]));
            }
        }
        String day = "day " + seed + ": ";
        for (int minute = 0; minute < 200; minute += 7) {
            DUE.is(9, day + "pump", x.pump(busy, minute, minute % 2), m.pump(busy, minute, minute % 2));
        }
        for (int what = 0; what < 4; what++) {
            DUE.is(10, day + "all", x.all(what), m.all(what));
        }
        DUE.is(14, day + "forward", x.forward(), m.forward());
        DUE.is(17, day + "film", x.film(2), m.film(2));
        DUE.is(16, day + "tells(2, 1)", x.tells(2, 1), m.tells(2, 1));
        DUE.is(19, day + "chance", x.chance(seed, 13, 0), m.chance(seed, 13, 0));
        for (int what = 0; what < 2; what++) {
            DUE.is(15, day + "blame", x.blame(what), m.blame(what));
            if (m.count(0) == 4 || seed % 30 == 0) {
                DUE.is(12, day + "lanes", x.lanes(what), m.lanes(what));
            }
        }
        for (int car = 0; car < m.count(0); car++) {
            askOfCar(day, car);
        }
    }

    private void askOfCar(String day, int car) {
        for (int what = 0; what < 4; what++) {
            DUE.is(8, day + "times", x.times(car, what), m.times(car, what));
        }
        for (int what = 0; what < 2; what++) {
            DUE.is(11, day + "lane", x.lane(car, what), m.lane(car, what));
            DUE.is(13, day + "when", x.when(car, what), m.when(car, what));
        }
        for (int tens = 10; tens <= 60; tens += 10) {
            DUE.is(16, day + "tells(2, " + (tens + car) + ")", x.tells(2, tens + car), m.tells(2, tens + car));
        }
    }

    /** Mostly small, so that calls are often good ones. */
    private int number() {
        switch (random.nextInt(24)) {
            case 0:
                return -1;
            case 1:
                return random.nextInt();
            case 2:
                return random.nextInt(256);
            case 3:
                return Integer.MAX_VALUE - random.nextInt(3);
            case 4:
                return random.nextInt(70);
            case 5:
                return random.nextInt(20);
            default:
                return random.nextInt(random.nextBoolean() ? 3 : 7);
        }
    }

    private void feedBoth(String text) {
        for (int i = 0; i < text.length(); i++) {
            DUE.is(5, "feed", x.feed(text.charAt(i)), m.feed(text.charAt(i)));
        }
    }

    private void check(int run, int which, int a, int b, int c, int d, int e) {
        long got;
        long want;
        int tens = random.nextInt(8) * 10 + Math.floorMod(b, 7);
        switch (which) {
            case 0: case 1: got = x.set(a, b, c); want = m.set(a, b, c); break;
            case 2: case 3: got = x.car(a, b, c); want = m.car(a, b, c); break;
            case 4: got = x.told(a, b); want = m.told(a, b); break;
            case 5: got = x.feed(a); want = m.feed(a); break;
            case 6: got = x.times(a, b); want = m.times(a, b); break;
            case 7: got = x.pump(a, b, c); want = m.pump(a, b, c); break;
            case 8: got = x.all(a); want = m.all(a); break;
            case 9: got = x.lane(a, b); want = m.lane(a, b); break;
            case 10: got = x.when(a, b); want = m.when(a, b); break;
            case 11: got = x.forward(); want = m.forward(); break;
            case 12: got = x.blame(a); want = m.blame(a); break;
            case 13: case 15: got = x.tells(a, tens); want = m.tells(a, tens); break;
            case 14: got = lanesOrImage(a, b); want = lanesOrImageOfModel(a, b); break;
            case 16: got = x.film(a); want = m.film(a); break;
            case 17: got = x.drawn(a); want = m.drawn(a); break;
            case 18: got = x.chance(a, b, c); want = m.chance(a, b, c); break;
            case 19: got = x.count(a); want = m.count(a); break;
            case 20: got = x.sheet(a, b - 1, c); want = m.sheet(a, b - 1, c); break;
            case 21: got = x.text(); want = m.text(); break;
            case 22: got = x.force(a); want = m.force(a); break;
            case 23: got = x.cell(a, b, c); want = m.cell(a, b, c); break;
            case 24: got = x.copy(a, b, c, d, e); want = m.copy(a, b, c, d, e); break;
            case 25: got = x.cars(a, b, c, d); want = m.cars(a, b, c, d); break;
            default: got = x.taken(a, b); want = m.taken(a, b); break;
        }
        DUE.is(0, "run " + run + ", call " + which + " with " + a + ", " + b + ", " + c + ", " + d + ", " + e
            + " (" + tens + ")", got, want);
    }

    /** The model's lanes() is slow with many cars, so it is asked for seldom then. */
    private int lanesOrImage(int a, int b) {
        boolean quick = x.count(0) < 5 || b == 0;
        return quick && a != 2 ? x.lanes(a) : a < 3 ? x.back() : x.image();
    }

    private int lanesOrImageOfModel(int a, int b) {
        boolean quick = m.count(0) < 5 || b == 0;
        return quick && a != 2 ? m.lanes(a) : a < 3 ? m.back() : m.image();
    }

    private String randomText() {
        StringBuilder s = new StringBuilder();
        String[] keys = {"takes", "forwards", "minds"};
        for (String key : keys) {
            s.append(blank()).append(key).append(' ').append(or(random.nextInt(5))).append(blank()).append(';');
        }
        while (random.nextInt(3) == 0) {
            spoil(s);
        }
        return s.length() > 160 ? s.substring(0, 160) : s.toString();
    }

    private void spoil(StringBuilder s) {
        String[] bits = {"not ", " or ", " and ", "-", "(", ")", ";", "<", "=", "+", "*", "7", "12345", "x", " ", "\n", "?", "pie",
            "((", "--", " not not ", "\t", "A", "" + (char) 200};
        int at = random.nextInt(s.length() + 1);
        switch (random.nextInt(3)) {
            case 0:
                s.insert(at, bits[random.nextInt(bits.length)]);
                break;
            case 1:
                s.delete(at, Math.min(s.length(), at + 1 + random.nextInt(3)));
                break;
            default:
                s.setLength(random.nextInt(4) == 0 ? at : s.length());
                break;
        }
    }

    private String blank() {
        return random.nextInt(5) == 0 ? " \n" : random.nextBoolean() ? " " : "";
    }

    private String or(int depth) {
        return random.nextInt(4) == 0 ? and(depth) + " or " + and(depth) : and(depth);
    }

    private String and(int depth) {
        return random.nextInt(4) == 0 ? not(depth) + " and " + not(depth) : not(depth);
    }

    private String not(int depth) {
        if (depth > 0 && random.nextInt(4) == 0) {
            return "not " + not(depth - 1);
        }
        return random.nextInt(3) == 0 ? sum(depth) + (random.nextBoolean() ? "<" : "=") + sum(depth) : sum(depth);
    }

    private String sum(int depth) {
        StringBuilder s = new StringBuilder(term(depth));
        while (random.nextInt(3) == 0) {
            s.append(random.nextBoolean() ? "+" : " - ").append(term(depth));
        }
        return s.toString();
    }

    private String term(int depth) {
        return random.nextInt(4) == 0 ? one(depth) + "*" + one(depth) : one(depth);
    }

    private String one(int depth) {
        if (depth > 0 && random.nextInt(4) == 0) {
            return random.nextBoolean() ? "-" + one(depth - 1) : "(" + or(depth - 1) + ")";
        }
        String[] names = {"cap", "lane", "minute", "number", "ahead", "pie"};
        return random.nextInt(3) == 0 ? names[random.nextInt(6)] : "" + random.nextInt(random.nextInt(9) == 0 ? 10000 : 12);
    }
}
