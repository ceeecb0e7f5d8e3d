import java.util.ArrayList;
import java.util.HashMap;
import java.util.List;
import java.util.Map;

/**
 * The document once more, written as slowly and as plainly as can be and in other ways than the
 * class itself, so that random runs on both can be compared.
 */
final class Model {
    static final int NONE = -1, BAD = -2, STATE = -3, FULL = -4;
    static final long NO = -4611686018427387904L;

    static class Car {
        int number, cap, lane, comes, pies;

        int kind() { return 0; }
        int takes(int v) { return v + pies; }
        boolean fits(int l) { return l % 2 == cap; }
        boolean draws(boolean yes) { return yes; }
        boolean isLong() { return false; }

        Car as(int kind) {
            Car c = of(kind);
            c.number = number;
            c.cap = cap;
            c.lane = lane;
            c.comes = comes;
            c.pies = pies;
            return c;
        }

        static Car of(int kind) {
            return switch (kind) {
                case 1 -> new Van();
                case 2 -> new Bike();
                case 3 -> new Trailer();
                case 4 -> new Scooter();
                case 5 -> new Lorry();
                default -> new Car();
            };
        }
    }

    static class Van extends Car {
        @Override int kind() { return 1; }
        @Override int takes(int v) { return 2 * super.takes(v); }
    }

    static class Bike extends Car {
        @Override int kind() { return 2; }
        @Override int takes(int v) { return super.takes(v) / 2; }
        @Override boolean fits(int l) { return true; }
        @Override boolean draws(boolean yes) { return false; }
    }

    static class Trailer extends Van {
        @Override int kind() { return 3; }
        @Override int takes(int v) { return super.takes(v) + number; }
        @Override boolean isLong() { return true; }
    }

    static class Scooter extends Bike {
        @Override int kind() { return 4; }
        @Override boolean draws(boolean yes) { return true; }
    }

    static class Lorry extends Car {
        @Override int kind() { return 5; }
        @Override int takes(int v) { return super.takes(v) + 10; }
        @Override boolean fits(int l) { return l != 3; }
        @Override boolean draws(boolean yes) { return yes && number > 4; }
        @Override boolean isLong() { return true; }
    }

    /** A text as tokens; what it tells is worked out from them each time. */
    static final class Text {
        static final List<String> NAMES = List.of("cap", "lane", "minute", "number", "ahead", "pie");
        static final List<String> KEYS = List.of("takes", "forwards", "minds", "or", "and", "not");
        final List<String> tokens = new ArrayList<>();
        final List<Integer> places = new ArrayList<>();
        final int size;
        private int at;
        private Map<String, Integer> values;

        Text(String tape) {
            size = tape.length();
            int i = 0;
            while (i < size) {
                char c = tape.charAt(i);
                int j = i + 1;
                if (c == ' ' || c == '\n') {
                    i++;
                    continue;
                }
                if (c >= 'a' && c <= 'z') {
                    while (j < size && tape.charAt(j) >= 'a' && tape.charAt(j) <= 'z') j++;
                } else if (c >= '0' && c <= '9') {
                    while (j < size && tape.charAt(j) >= '0' && tape.charAt(j) <= '9') j++;
                }
                tokens.add(tape.substring(i, j));
                places.add(i);
                i = j;
            }
        }

        private static boolean isNumber(String t) { return t.matches("[0-9]{1,4}"); }

        private static boolean isOperand(String t) { return isNumber(t) || NAMES.contains(t); }

        /** NONE: there is none. Goes along the tokens with a stack of what is open. */
        int fault() {
            List<String> open = new ArrayList<>();
            List<Boolean> compared = new ArrayList<>(List.of(false));
            int part = 0;
            String mode = "key";
            String last = "";
            for (int i = 0; i < tokens.size(); i++) {
                String t = tokens.get(i);
                int place = places.get(i);
                if (mode.equals("key")) {
                    if (part == 3 || !t.equals(KEYS.get(part))) return place;
                    part++;
                    mode = "operand";
                } else if (mode.equals("operand")) {
                    boolean notMayStand = List.of("takes", "forwards", "minds", "or", "and", "not", "(").contains(last);
                    if (isOperand(t)) {
                        close(open, "-");
                        mode = "operator";
                    } else if (t.equals("-") || t.equals("(") || (t.equals("not") && notMayStand)) {
                        if (open.size() == 5) return place;
                        open.add(t);
                        if (t.equals("(")) compared.add(false);
                    } else {
                        return place;
                    }
                } else if (List.of("+", "-", "*").contains(t)) {
                    mode = "operand";
                } else if (t.equals("<") || t.equals("=")) {
                    if (compared.get(compared.size() - 1)) return place;
                    compared.set(compared.size() - 1, true);
                    mode = "operand";
                } else if (t.equals("or") || t.equals("and")) {
                    close(open, "not");
                    compared.set(compared.size() - 1, false);
                    mode = "operand";
                } else if (t.equals(")")) {
                    close(open, "not");
                    if (open.isEmpty()) return place;
                    open.remove(open.size() - 1);
                    close(open, "-");
                    compared.remove(compared.size() - 1);
                } else if (t.equals(";")) {
                    close(open, "not");
                    if (!open.isEmpty()) return place;
                    compared.set(0, false);
                    mode = "key";
                } else {
                    return place;
                }
                last = t;
            }
            return part == 3 && mode.equals("key") ? NONE : size;
        }

        private static void close(List<String> open, String which) {
            while (!open.isEmpty() && open.get(open.size() - 1).equals(which)) open.remove(open.size() - 1);
        }

        int value(String key, Map<String, Integer> env) {
            values = env;
            at = tokens.indexOf(key) + 1;
            return binary(0);
        }

        private static final String[][] LEVELS = {{"or"}, {"and"}, {"<", "="}, {"+", "-"}, {"*"}};

        private int binary(int level) {
            if (level == LEVELS.length) return one();
            if (level == 2 && tokens.get(at).equals("not")) {
                at++;
                return binary(2) == 0 ? 1 : 0;
            }
            int a = binary(level + 1);
            while (List.of(LEVELS[level]).contains(tokens.get(at))) {
                String op = tokens.get(at++);
                int b = binary(level + 1);
                a = switch (op) {
                    case "or" -> a != 0 | b != 0 ? 1 : 0;
                    case "and" -> a != 0 & b != 0 ? 1 : 0;
                    case "<" -> a < b ? 1 : 0;
                    case "=" -> a == b ? 1 : 0;
                    case "+" -> a + b;
                    case "-" -> a - b;
                    default -> a * b;
                };
            }
            return a;
        }

        private int one() {
            String t = tokens.get(at++);
            if (t.equals("-")) return -one();
            if (t.equals("(")) {
                int v = binary(0);
                at++;
                return v;
            }
            return isNumber(t) ? Integer.parseInt(t) : values.get(t);
        }
    }

    /** All that happens to some cars: who is where at the end of each minute, and so on. */
    final class Day {
        final int n;
        final int[] starts, off, place;
        final int[][][] at = new int[4][200][2];
        int vain;

        Day(List<Car> list, Text rule, boolean allForward) {
            n = list.size();
            starts = new int[n];
            off = new int[n];
            place = new int[n];
            int[] ends = new int[n];
            java.util.Arrays.fill(starts, NONE);
            java.util.Arrays.fill(off, NONE);
            java.util.Arrays.fill(place, NONE);
            int[][] pump = {{NONE, NONE}, {NONE, NONE}, {NONE, NONE}, {NONE, NONE}};
            for (int m = 0; m < 200; m++) {
                for (int l = 0; l < 4; l++) {
                    int[] p = pump[l];
                    if (p[1] >= 0 && m >= ends[p[1]]) {
                        off[p[1]] = m;
                        if (place[p[1]] == 2) p[0] = NONE;
                        p[1] = NONE;
                    }
                    if (p[0] >= 0 && p[1] < 0 && m >= ends[p[0]]) {
                        off[p[0]] = m;
                        p[0] = NONE;
                    }
                    while (p[0] < 0) {
                        int first = NONE;
                        for (int i = 0; i < n; i++) {
                            Car c = list.get(i);
                            if (c.lane == l && c.comes <= m && c.fits(l) && starts[i] < 0
                                && (first < 0 || c.comes < list.get(first).comes)) first = i;
                        }
                        if (first < 0) break;
                        Car c = list.get(first);
                        if (c.isLong() && p[1] >= 0) break;
                        int ahead = p[1] >= 0 ? 1 : 0;
                        starts[first] = m;
                        ends[first] = m + minutes(c, rule, m, ahead);
                        if (c.isLong()) {
                            p[0] = first;
                            p[1] = first;
                            place[first] = 2;
                        } else if (p[1] < 0 && c.draws(allForward || tell(c, rule, "forwards", m, ahead) != 0)) {
                            p[1] = first;
                            place[first] = 1;
                        } else {
                            p[0] = first;
                            place[first] = 0;
                        }
                    }
                    if (p[0] >= 0 && p[1] < 0) vain++;
                    at[l][m] = p.clone();
                }
            }
        }

        int waited(List<Car> list, int i) {
            return (starts[i] < 0 ? 200 : starts[i]) - list.get(i).comes;
        }
    }

    final List<Car> cars = new ArrayList<>();
    final List<Text> texts = new ArrayList<>(List.of(new Text("takes 4 ; forwards 1 ; minds 1 ;")));
    final StringBuilder tape = new StringBuilder();
    final Object[] sheets = new Object[4];
    int rule;
    List<Car> image;
    int imageRule;

    int tell(Car c, Text t, String key, int minute, int ahead) {
        Map<String, Integer> env = new HashMap<>();
        env.put("cap", c.cap);
        env.put("lane", c.lane);
        env.put("minute", minute);
        env.put("number", c.number);
        env.put("ahead", ahead);
        env.put("pie", c.pies);
        return t.value(key, env);
    }

    int minutes(Car c, Text t, int minute, int ahead) {
        int v = tell(c, t, "takes", minute, ahead);
        v = v < 0 ? 0 : v > 40 ? 40 : v;
        int takes = c.takes(v);
        return takes < 1 ? 1 : takes;
    }

    int minds(Car c, Text t) {
        int v = tell(c, t, "minds", c.comes, 0);
        return v < 0 ? 0 : v > 9 ? 9 : v;
    }

    Text theRule() { return texts.get(rule); }

    Day day() { return new Day(cars, theRule(), false); }

    int badness(List<Car> list, Day d, int without) {
        int sum = 0;
        for (int i = 0; i < list.size(); i++) {
            if (i != without) sum += minds(list.get(i), theRule()) * d.waited(list, i);
        }
        return sum;
    }

    int badness(List<Car> list) { return badness(list, new Day(list, theRule(), false), NONE); }

    List<Car> copyOf(List<Car> list) {
        List<Car> copy = new ArrayList<>();
        for (Car c : list) copy.add(c.as(c.kind()));
        return copy;
    }

    boolean isCar(int car) { return car >= 0 && car < cars.size(); }

    static boolean in(int v, int low, int high) { return v >= low && v <= high; }

    int set(int what, int of, int v) {
        if (!in(what, 0, 4) || !isCar(of) || !in(v, 0, new int[] {9, 1, 3, 99, 9}[what])) return BAD;
        int was = told(of, what);
        put(cars.get(of), what, v);
        return was;
    }

    static void put(Car c, int what, int v) {
        switch (what) {
            case 0 -> c.number = v;
            case 1 -> c.cap = v;
            case 2 -> c.lane = v;
            case 3 -> c.comes = v;
            default -> c.pies = v;
        }
    }

    int car(int kind, int number, int lane) {
        if (!in(kind, 0, 5) || !in(number, 0, 9) || !in(lane, 0, 3)) return BAD;
        if (cars.size() == 6) return FULL;
        Car c = Car.of(kind);
        c.number = number;
        c.lane = lane;
        cars.add(c);
        return cars.size() - 1;
    }

    int told(int of, int what) {
        if (!isCar(of) || !in(what, 0, 10)) return BAD;
        Car c = cars.get(of);
        return switch (what) {
            case 0 -> c.number;
            case 1 -> c.cap;
            case 2 -> c.lane;
            case 3 -> c.comes;
            case 4 -> c.pies;
            case 5 -> c.kind();
            case 6 -> c.fits(c.lane) ? 1 : 0;
            case 7 -> c.isLong() ? 1 : 0;
            case 8 -> c.draws(tell(c, theRule(), "forwards", c.comes, 0) != 0) ? 1 : 0;
            case 9 -> minutes(c, theRule(), c.comes, 0);
            default -> minds(c, theRule());
        };
    }

    int feed(int letter) {
        if (!in(letter, 0, 255)) return BAD;
        if (tape.length() == 160) return FULL;
        tape.append((char) letter);
        return tape.length();
    }

    int text() {
        if (texts.size() == 6) return FULL;
        Text t = new Text(tape.toString());
        tape.setLength(0);
        int fault = t.fault();
        if (fault != NONE) return -100 - fault;
        texts.add(t);
        return texts.size() - 1;
    }

    int force(int text) {
        if (!in(text, 0, texts.size() - 1)) return BAD;
        int was = rule;
        rule = text;
        return was;
    }

    int times(int car, int what) {
        if (!isCar(car) || !in(what, 0, 3)) return BAD;
        Day d = day();
        return switch (what) {
            case 0 -> d.starts[car];
            case 1 -> d.off[car];
            case 2 -> d.waited(cars, car);
            default -> d.place[car];
        };
    }

    int pump(int lane, int minute, int what) {
        if (!in(lane, 0, 3) || !in(minute, 0, 199) || !in(what, 0, 1)) return BAD;
        return day().at[lane][minute][what];
    }

    int all(int what) {
        if (!in(what, 0, 3)) return BAD;
        Day d = day();
        if (what == 0) return badness(cars);
        if (what == 1) return d.vain;
        if (what == 2) {
            int last = NONE;
            for (int off : d.off) {
                if (off < 0) return NONE;
                last = Math.max(last, off);
            }
            return last;
        }
        int pairs = 0;
        for (int i = 0; i < cars.size(); i++) {
            for (int j = i + 1; j < cars.size(); j++) {
                boolean swapped = cars.get(j).comes < cars.get(i).comes;
                int first = swapped ? j : i;
                int other = swapped ? i : j;
                if (cars.get(i).lane == cars.get(j).lane && d.off[i] >= 0 && d.off[j] >= 0
                    && d.off[first] > d.off[other]) pairs++;
            }
        }
        return pairs;
    }

    int lane(int car, int what) {
        if (!isCar(car) || !in(what, 0, 1)) return BAD;
        int best = NONE, off = NONE;
        for (int l = 3; l >= 0; l--) {
            List<Car> list = copyOf(cars);
            list.get(car).lane = l;
            int o = new Day(list, theRule(), false).off[car];
            if (o >= 0 && (best < 0 || o <= off)) {
                best = l;
                off = o;
            }
        }
        return what == 0 ? best : off;
    }

    /** All ways, each with a day of its own. */
    int lanes(int what) {
        if (!in(what, 0, 1)) return BAD;
        int[] best = {0, Integer.MAX_VALUE};
        tryLanes(copyOf(cars), 0, 0, best);
        return best[what];
    }

    private void tryLanes(List<Car> list, int from, int digits, int[] best) {
        if (from == list.size()) {
            int b = badness(list);
            if (b < best[1]) {
                best[0] = digits;
                best[1] = b;
            }
            return;
        }
        for (int l = 0; l < 4; l++) {
            list.get(from).lane = l;
            tryLanes(list, from + 1, digits * 10 + l + 1, best);
        }
    }

    int when(int car, int what) {
        if (!isCar(car) || !in(what, 0, 1)) return BAD;
        int best = NONE, least = 1000;
        for (int m = 0; m < 100; m++) {
            List<Car> list = copyOf(cars);
            list.get(car).comes = m;
            int w = new Day(list, theRule(), false).waited(list, car);
            if (w < least) {
                least = w;
                best = m;
            }
        }
        return what == 0 ? best : least;
    }

    int forward() {
        return badness(cars, new Day(cars, theRule(), true), NONE) - badness(cars);
    }

    int blame(int what) {
        if (!in(what, 0, 1)) return BAD;
        int best = NONE, most = 0, then = badness(cars);
        for (int i = 0; i < cars.size(); i++) {
            List<Car> list = copyOf(cars);
            list.remove(i);
            int without = badness(list);
            int less = badness(cars, day(), i) - without;
            if (less > most) {
                most = less;
                best = i;
                then = without;
            }
        }
        return what == 0 ? best : then;
    }

    static int length(Object sheet) { return java.lang.reflect.Array.getLength(sheet); }

    static int get(Object sheet, int i) { return java.lang.reflect.Array.getInt(sheet, i); }

    static int sortOf(Object sheet) { return sheet instanceof byte[] ? 0 : sheet instanceof short[] ? 1 : 2; }

    boolean asTold(List<Car> list, Text t, Object sheet) { return otherwise(list, t, sheet) == 0; }

    int otherwise(List<Car> list, Text t, Object sheet) {
        Day d = new Day(list, t, false);
        int bits = 0;
        for (int i = 0; i < list.size(); i++) {
            if (d.off[i] != get(sheet, i)) bits |= 1 << i;
        }
        return bits;
    }

    int tells(int sheet, int what) {
        if (!in(sheet, 0, 3)) return BAD;
        if (what != 0 && what != 1 && !in(what, 10, 69)) return BAD;
        if (what >= 10 && !isCar(what % 10)) return BAD;
        if (sheets[sheet] == null) return -11;
        Object told = sheets[sheet];
        if (length(told) != cars.size()) return BAD;
        if (what == 0) return otherwise(cars, theRule(), told);
        int bits = 0;
        if (what == 1) {
            for (int t = 0; t < texts.size(); t++) {
                if (asTold(cars, texts.get(t), told)) bits |= 1 << t;
            }
            return bits;
        }
        int car = what % 10;
        int ask = what / 10;
        int many = 0, least = NONE;
        int[] values = {0, 6, 10, 4, 10, 100, 100};
        for (int v = 0; v < values[ask]; v++) {
            List<Car> list = copyOf(cars);
            if (ask == 1) {
                list.set(car, list.get(car).as(v));
            } else {
                put(list.get(car), new int[] {0, 0, 0, 2, 4, 3, 3}[ask], v);
            }
            if (asTold(list, theRule(), told)) {
                many++;
                if (least < 0) least = v;
                if (ask < 5) bits |= 1 << v;
            }
        }
        return ask == 5 ? many : ask == 6 ? least : bits;
    }

    int film(int sheet) {
        if (!in(sheet, 0, 3)) return BAD;
        short[] row = new short[cars.size()];
        Day d = day();
        for (int i = 0; i < row.length; i++) row[i] = (short) d.off[i];
        sheets[sheet] = row;
        return row.length;
    }

    int drawn(int seed) {
        List<Car> list = copyOf(cars);
        int z = seed;
        for (Car c : list) {
            z = z * 1103515245 + 12345;
            c.lane = (z >>> 9) % 4;
        }
        return badness(list);
    }

    long chance(int seed, int n, int part) {
        if (!in(n, 1, 20) || !in(part, 0, 1)) return NO;
        int good = 0;
        for (int i = 0; i < n; i++) {
            if (drawn(seed + i) <= badness(cars)) good++;
        }
        int below = n;
        for (int d = 20; d > 1; d--) {
            if (good % d == 0 && below % d == 0) {
                good /= d;
                below /= d;
            }
        }
        return part == 0 ? good : below;
    }

    int image() {
        image = copyOf(cars);
        imageRule = rule;
        return image.size();
    }

    int back() {
        if (image == null) return STATE;
        cars.clear();
        cars.addAll(copyOf(image));
        rule = imageRule;
        return cars.size();
    }

    int count(int what) {
        return switch (what) {
            case 0 -> cars.size();
            case 1 -> texts.size();
            case 2 -> tape.length();
            case 3 -> rule;
            default -> BAD;
        };
    }

    int sheet(int sheet, int sort, int n) {
        if (!in(sheet, 0, 3) || !in(sort, -1, 2)) return BAD;
        if (sort == -1) {
            sheets[sheet] = null;
            return 1;
        }
        if (n > 40) return BAD;
        if (n < 0) return -14;
        sheets[sheet] = sort == 0 ? new byte[n] : sort == 1 ? new short[n] : new int[n];
        return 1;
    }

    int cell(int sheet, int i, int v) {
        if (!in(sheet, 0, 3)) return BAD;
        Object row = sheets[sheet];
        if (row == null) return -11;
        if (!in(i, 0, length(row) - 1)) return -12;
        if (row instanceof byte[] b) b[i] = (byte) v;
        else if (row instanceof short[] s) s[i] = (short) v;
        else ((int[]) row)[i] = v;
        return 1;
    }

    int copy(int sheet, int i, int other, int j, int n) {
        if (!in(sheet, 0, 3) || !in(other, 0, 3)) return BAD;
        try {
            System.arraycopy(sheets[sheet], i, sheets[other], j, n);
            return n;
        } catch (NullPointerException e) {
            return -11;
        } catch (ArrayStoreException e) {
            return -13;
        } catch (IndexOutOfBoundsException e) {
            return -12;
        }
    }

    int cars(int sheet, int sort, int from, int n) {
        if (!in(sheet, 0, 3) || !in(sort, 0, 2) || !in(n, 0, 6)) return BAD;
        Object row = sheets[sheet];
        if (row != null && sortOf(row) != sort) return -13;
        if (row == null) return -11;
        int came = 0;
        for (int k = 0; k < n; k++) {
            int[] three = new int[3];
            for (int q = 0; q < 3; q++) {
                long i = (long) from + 3 * k + q;
                if (i < 0 || i >= length(row)) return -12;
                three[q] = get(row, (int) i);
            }
            if (car(three[0], three[1], three[2]) >= 0) came++;
        }
        return came;
    }

    int taken(int car, int k) {
        if (!in(k, 0, 5)) return BAD;
        if (!isCar(car)) return -11;
        return Car.of(k).getClass().isInstance(cars.get(car)) ? cars.get(car).number : -13;
    }
}
