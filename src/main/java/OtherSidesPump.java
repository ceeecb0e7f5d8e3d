/** Four lanes with two pumps each, up to six cars, and what becomes of them minute by minute. */
public final class OtherSidesPump {
    public static final int NONE = -1, BAD = -2, STATE = -3, FULL = -4;
    public static final long NO = -4611686018427387904L;

    private static final int NOTHING = -11, OUTSIDE = -12, UNLIKE = -13, BELOW_ZERO = -14;
    private static final int FAULT = -100;

    private static final int MOST_CARS = 6, LANE_COUNT = 4, MINUTES = 200;
    private static final int MOST_TEXTS = 6, TAPE_ROOM = 160;
    private static final int SHEETS = 4, SHEET_ROOM = 40, MISSING = -1, SHORTS = 1, SORTS = 3;
    private static final int MOST_SEEDS = 20;

    /** What a car has, by the numbers of set() and told(). */
    private static final int NUMBER = 0, CAP = 1, LANE = 2, COMES = 3, PIES = 4, KIND = 5, FEATURES = 6;
    private static final int[] HIGHEST = {9, 1, 3, 99, 9, 5};

    /** What a text tells, in the order in which it tells it. */
    private static final int TAKES = 0, FORWARDS = 1, MINDS = 2, PARTS = 3;
    private static final int MOST_TAKES = 40, MOST_MINDS = 9;

    /** At which pump a car is. */
    private static final int BACK = 0, FRONT = 1, BOTH = 2;

    /** Which feature tells(.., 10 ..) to tells(.., 60 ..) ask for, by the number of tens. */
    private static final int[] SOUGHT = {NONE, KIND, NUMBER, LANE, PIES, COMES, COMES};
    private static final int HOW_MANY_MINUTES = 5, LEAST_MINUTE = 6;

    private final Fleet fleet;
    private final Rules rules;
    private final Reader tape;
    private final Yard yard;
    private final Advice advice;
    private final Sheet[] sheets;
    private final Keepsake kept;

    public OtherSidesPump() {
        fleet = new Fleet();
        rules = new Rules();
        tape = new Reader(rules);
        yard = new Yard(fleet, rules);
        advice = new Advice(fleet, yard);
        kept = new Keepsake();
        sheets = new Sheet[SHEETS];
        for (int i = 0; i < SHEETS; i++) {
            sheets[i] = new Sheet();
        }
        tape.lay("takes 4 ; forwards 1 ; minds 1 ;");
        tape.readText();
        tape.empty();
    }

    // ---- cars

    public int set(int what, int of, int v) {
        if (what < NUMBER || what > PIES || !fleet.has(of) || v < 0 || v > HIGHEST[what]) {
            return BAD;
        }
        return fleet.put(what, of, v);
    }

    public int car(int kind, int number, int lane) {
        return fleet.welcome(kind, number, lane);
    }

    public int told(int of, int what) {
        if (!fleet.has(of) || what < 0 || what > 10) {
            return BAD;
        }
        int lane = fleet.tell(LANE, of);
        int minute = fleet.tell(COMES, of);
        switch (what) {
            case 6:
                return yard.fits(of, lane) ? 1 : 0;
            case 7:
                return Kinds.isLong(fleet.tell(KIND, of)) ? 1 : 0;
            case 8:
                return yard.drawsForward(of, lane, minute) ? 1 : 0;
            case 9:
                return yard.takes(of, lane, minute, 0);
            case 10:
                return yard.minds(of, lane);
            default:
                return fleet.tell(what, of);
        }
    }

    // ---- texts

    public int feed(int letter) {
        if (letter < 0 || letter > 255) {
            return BAD;
        }
        return tape.add(letter) ? tape.size() : FULL;
    }

    public int text() {
        if (rules.isFull()) {
            return FULL;
        }
        int fault = tape.readText();
        tape.empty();
        return fault == NONE ? rules.size() - 1 : FAULT - fault;
    }

    public int force(int text) {
        return rules.has(text) ? rules.choose(text) : BAD;
    }

    // ---- minute by minute

    public int times(int car, int what) {
        if (!fleet.has(car) || what < 0 || what > 3) {
            return BAD;
        }
        yard.spread();
        yard.playAll();
        switch (what) {
            case 0:
                return yard.starts(car);
            case 1:
                return yard.off(car);
            case 2:
                return yard.waited(car);
            default:
                return yard.place(car);
        }
    }

    public int pump(int lane, int minute, int what) {
        if (lane < 0 || lane >= LANE_COUNT || minute < 0 || minute >= MINUTES || what < BACK || what > FRONT) {
            return BAD;
        }
        yard.spread();
        yard.playAll();
        return yard.whoIsAt(lane, minute, what);
    }

    public int all(int what) {
        if (what < 0 || what > 3) {
            return BAD;
        }
        yard.spread();
        int badness = yard.playAll();
        switch (what) {
            case 0:
                return badness;
            case 1:
                return yard.inVain();
            case 2:
                return yard.lastOff();
            default:
                return yard.outOfOrder();
        }
    }

    // ---- what would be best

    public int lane(int car, int what) {
        if (!fleet.has(car) || what < 0 || what > 1) {
            return BAD;
        }
        advice.seekLane(car);
        return advice.answer(what);
    }

    public int lanes(int what) {
        if (what < 0 || what > 1) {
            return BAD;
        }
        advice.seekLanes();
        return advice.answer(what);
    }

    public int when(int car, int what) {
        if (!fleet.has(car) || what < 0 || what > 1) {
            return BAD;
        }
        advice.seekMinute(car);
        return advice.answer(what);
    }

    public int forward() {
        yard.spread();
        int now = yard.playAll();
        yard.sendAllForward(true);
        int then = yard.playAll();
        yard.sendAllForward(false);
        return then - now;
    }

    public int blame(int what) {
        if (what < 0 || what > 1) {
            return BAD;
        }
        advice.seekBlame();
        return advice.answer(what);
    }

    // ---- times that were told

    public int tells(int sheet, int what) {
        int tens = what / 10;
        boolean ofOneCar = tens >= 1 && tens <= LEAST_MINUTE;
        if (!isSheet(sheet) || what < 0 || (what > 1 && !ofOneCar) || (ofOneCar && !fleet.has(what % 10))) {
            return BAD;
        }
        Sheet told = sheets[sheet];
        if (told.isMissing()) {
            return NOTHING;
        }
        if (told.size() != fleet.size()) {
            return BAD;
        }
        if (ofOneCar) {
            return likely(told, tens, what % 10);
        }
        return what == 0 ? otherwiseNow(told) : likelyTexts(told);
    }

    public int film(int sheet) {
        if (!isSheet(sheet)) {
            return BAD;
        }
        yard.spread();
        yard.playAll();
        Sheet told = sheets[sheet];
        told.become(SHORTS, fleet.size());
        for (int car = 0; car < fleet.size(); car++) {
            told.put(car, yard.off(car));
        }
        return fleet.size();
    }

    public int drawn(int seed) {
        yard.spreadBySeed(seed);
        return yard.playAll();
    }

    public long chance(int seed, int n, int part) {
        if (n < 1 || n > MOST_SEEDS || part < 0 || part > 1) {
            return NO;
        }
        yard.spread();
        int now = yard.playAll();
        int good = 0;
        for (int i = 0; i < n; i++) {
            yard.spreadBySeed(seed + i);
            if (yard.playAll() <= now) {
                good++;
            }
        }
        int common = Advice.commonDivisor(good, n);
        return part == 0 ? good / common : n / common;
    }

    public int image() {
        kept.take(fleet, rules);
        return fleet.size();
    }

    public int back() {
        if (!kept.isTaken()) {
            return STATE;
        }
        kept.layBack(fleet, rules);
        return fleet.size();
    }

    public int count(int what) {
        switch (what) {
            case 0:
                return fleet.size();
            case 1:
                return rules.size();
            case 2:
                return tape.size();
            case 3:
                return rules.chosen();
            default:
                return BAD;
        }
    }

    // ---- the host

    public int sheet(int sheet, int sort, int n) {
        if (!isSheet(sheet) || sort < MISSING || sort >= SORTS) {
            return BAD;
        }
        if (sort == MISSING) {
            sheets[sheet].become(MISSING, 0);
            return 1;
        }
        if (n > SHEET_ROOM) {
            return BAD;
        }
        if (n < 0) {
            return BELOW_ZERO;
        }
        sheets[sheet].become(sort, n);
        return 1;
    }

    public int cell(int sheet, int i, int v) {
        if (!isSheet(sheet)) {
            return BAD;
        }
        Sheet row = sheets[sheet];
        if (row.isMissing()) {
            return NOTHING;
        }
        return row.put(i, v) ? 1 : OUTSIDE;
    }

    public int copy(int sheet, int i, int other, int j, int n) {
        if (!isSheet(sheet) || !isSheet(other)) {
            return BAD;
        }
        Sheet from = sheets[sheet];
        Sheet to = sheets[other];
        if (from.isMissing() || to.isMissing()) {
            return NOTHING;
        }
        if (from.sort() != to.sort()) {
            return UNLIKE;
        }
        if (!from.hasRun(i, n) || !to.hasRun(j, n)) {
            return OUTSIDE;
        }
        to.putRun(j, from, i, n);
        return n;
    }

    public int cars(int sheet, int sort, int from, int n) {
        if (!isSheet(sheet) || sort < 0 || sort >= SORTS || n < 0 || n > MOST_CARS) {
            return BAD;
        }
        Sheet row = sheets[sheet];
        if (row.isMissing()) {
            return NOTHING;
        }
        if (row.sort() != sort) {
            return UNLIKE;
        }
        int came = 0;
        int at = from;
        for (int i = 0; i < n; i++) {
            if (!row.hasRun(at, 3)) {
                return OUTSIDE;
            }
            if (fleet.welcome(row.item(at), row.item(at + 1), row.item(at + 2)) >= 0) {
                came++;
            }
            at += 3;
        }
        return came;
    }

    public int taken(int car, int k) {
        if (k < 0 || k > HIGHEST[KIND]) {
            return BAD;
        }
        if (!fleet.has(car)) {
            return NOTHING;
        }
        return Kinds.isUnder(fleet.tell(KIND, car), k) ? fleet.tell(NUMBER, car) : UNLIKE;
    }

    private static boolean isSheet(int sheet) {
        return sheet >= 0 && sheet < SHEETS;
    }

    /** The bits of the cars that are off in another minute than was told. */
    private int otherwiseNow(Sheet told) {
        yard.spread();
        yard.playAll();
        return yard.otherwise(told);
    }

    /** The bits of the texts by which all would be as was told. */
    private int likelyTexts(Sheet told) {
        int was = rules.chosen();
        int bits = 0;
        for (int text = 0; text < rules.size(); text++) {
            rules.choose(text);
            yard.spread();
            yard.playAll();
            if (yard.otherwise(told) == 0) {
                bits |= 1 << text;
            }
        }
        rules.choose(was);
        return bits;
    }

    /** What one feature of one car could be, all others being as they are, if all is as was told. */
    private int likely(Sheet told, int tens, int car) {
        int feature = SOUGHT[tens];
        int was = fleet.tell(feature, car);
        int bits = 0;
        int howMany = 0;
        int least = NONE;
        for (int v = 0; v <= HIGHEST[feature]; v++) {
            fleet.put(feature, car, v);
            yard.spread();
            yard.playAll();
            if (yard.otherwise(told) == 0) {
                bits |= 1 << v;
                least = howMany == 0 ? v : least;
                howMany++;
            }
        }
        fleet.put(feature, car, was);
        if (tens == LEAST_MINUTE) {
            return least;
        }
        return tens == HOW_MANY_MINUTES ? howMany : bits;
    }

    /** What the kinds have of their own, where one is not as the one above it. */
    private static final class Kinds {
        private static final int CAR = 0, VAN = 1, BIKE = 2, TRAILER = 3, SCOOTER = 4, LORRY = 5;
        private static final int[] ABOVE = {NONE, CAR, CAR, VAN, BIKE, CAR};

        /** The minutes that one of a kind takes for which a CAR would take so many. */
        static int minutes(int kind, int ofCar, int number) {
            switch (kind) {
                case VAN:
                    return 2 * ofCar;
                case TRAILER:
                    return 2 * ofCar + number;
                case BIKE:
                case SCOOTER:
                    return ofCar / 2;
                case LORRY:
                    return ofCar + 10;
                default:
                    return ofCar;
            }
        }

        static boolean fits(int kind, int cap, int lane) {
            switch (kind) {
                case BIKE:
                case SCOOTER:
                    return true;
                case LORRY:
                    return lane != 3;
                default:
                    return lane % 2 == cap;
            }
        }

        static boolean drawsForward(int kind, boolean yes, int number) {
            switch (kind) {
                case BIKE:
                    return false;
                case SCOOTER:
                    return true;
                case LORRY:
                    return yes && number > 4;
                default:
                    return yes;
            }
        }

        static boolean isLong(int kind) {
            return kind == TRAILER || kind == LORRY;
        }

        static boolean isUnder(int kind, int above) {
            int k = kind;
            for (int step = 0; step < ABOVE.length && k >= 0 && k < ABOVE.length; step++) {
                if (k == above) {
                    return true;
                }
                k = ABOVE[k];
            }
            return false;
        }
    }

    /** The cars that have come, and what is told of them. */
    private static final class Fleet {
        private final int[][] rows = new int[FEATURES][MOST_CARS];
        private int size;

        int size() {
            return size;
        }

        boolean has(int car) {
            return car >= 0 && car < size;
        }

        int tell(int feature, int car) {
            return feature >= 0 && feature < FEATURES && car >= 0 && car < size ? rows[feature][car] : 0;
        }

        /** What it was before. */
        int put(int feature, int car, int v) {
            int was = tell(feature, car);
            if (feature >= 0 && feature < FEATURES && has(car)) {
                rows[feature][car] = v;
            }
            return was;
        }

        /** The new car's number, or why it can't come. */
        int welcome(int kind, int number, int lane) {
            if (!isOne(KIND, kind) || !isOne(NUMBER, number) || !isOne(LANE, lane)) {
                return BAD;
            }
            if (size >= MOST_CARS) {
                return FULL;
            }
            int car = size++;
            put(KIND, car, kind);
            put(NUMBER, car, number);
            put(LANE, car, lane);
            put(CAP, car, 0);
            put(COMES, car, 0);
            put(PIES, car, 0);
            return car;
        }

        void sendAwayFrom(int car) {
            if (has(car)) {
                size = car;
            }
        }

        private static boolean isOne(int feature, int v) {
            return v >= 0 && v <= HIGHEST[feature];
        }
    }

    /** What image() keeps; kinds never change, so they need not be kept. */
    private static final class Keepsake {
        private final int[][] rows = new int[KIND][MOST_CARS];
        private int size = NONE;
        private int rule;

        boolean isTaken() {
            return size != NONE;
        }

        void take(Fleet fleet, Rules rules) {
            size = fleet.size();
            rule = rules.chosen();
            for (int feature = 0; feature < KIND; feature++) {
                for (int car = 0; car < size; car++) {
                    rows[feature][car] = fleet.tell(feature, car);
                }
            }
        }

        void layBack(Fleet fleet, Rules rules) {
            fleet.sendAwayFrom(size);
            rules.choose(rule);
            for (int feature = 0; feature < KIND; feature++) {
                for (int car = 0; car < size; car++) {
                    fleet.put(feature, car, rows[feature][car]);
                }
            }
        }
    }

    /** The texts, each as steps of a machine with a stack, and which of them is the rule. */
    private static final class Rules {
        /** Steps from 0 up are numbers; those from NAME down to LAST_NAME are names. */
        static final int NAME = -1, LAST_NAME = -6, NAMES = 6;
        static final int OR = -7, AND = -8, NOT = -9, LESS = -10, SAME = -11;
        static final int PLUS = -12, LESSEN = -13, TIMES = -14, NEGATE = -15, END = -16;

        private final int[][] steps = new int[MOST_TEXTS][TAPE_ROOM];
        private final int[][] begins = new int[MOST_TEXTS][PARTS];
        private final int[] stack = new int[TAPE_ROOM];
        /** What the names stand for, in the order of the reader's list of words. */
        private final int[] names = new int[NAMES];
        private int size;
        private int chosen;
        private int written;

        int size() {
            return size;
        }

        boolean isFull() {
            return size >= MOST_TEXTS;
        }

        boolean has(int text) {
            return text >= 0 && text < size;
        }

        int chosen() {
            return chosen;
        }

        /** Which was the rule before. */
        int choose(int text) {
            int was = chosen;
            if (has(text)) {
                chosen = text;
            }
            return was;
        }

        void beginText() {
            written = 0;
        }

        void beginPart(int part) {
            if (!isFull() && part >= 0 && part < PARTS) {
                begins[size][part] = written;
            }
        }

        void write(int step) {
            if (!isFull() && written < TAPE_ROOM) {
                steps[size][written++] = step;
            }
        }

        void endText() {
            if (!isFull()) {
                size++;
            }
        }

        /** What a part of the rule tells of a car in a lane, in a minute, with so many ahead. */
        int ask(int part, Fleet fleet, int car, int lane, int minute, int ahead) {
            names[0] = fleet.tell(CAP, car);
            names[1] = lane;
            names[2] = minute;
            names[3] = fleet.tell(NUMBER, car);
            names[4] = ahead;
            names[5] = fleet.tell(PIES, car);
            if (chosen < 0 || chosen >= size || part < 0 || part >= PARTS) {
                return 0;
            }
            int[] row = steps[chosen];
            int top = 0;
            for (int i = begins[chosen][part]; i >= 0 && i < row.length && row[i] != END; i++) {
                int step = row[i];
                if (step >= LAST_NAME) {
                    if (top < stack.length) {
                        stack[top++] = step >= 0 ? step : names[NAME - step];
                    }
                } else if (step == NOT || step == NEGATE) {
                    if (top >= 1) {
                        int a = stack[top - 1];
                        stack[top - 1] = step == NEGATE ? -a : a == 0 ? 1 : 0;
                    }
                } else if (top >= 2) {
                    top--;
                    stack[top - 1] = joined(step, stack[top - 1], stack[top]);
                }
            }
            return top >= 1 ? stack[top - 1] : 0;
        }

        private static int joined(int step, int a, int b) {
            switch (step) {
                case OR:
                    return a != 0 || b != 0 ? 1 : 0;
                case AND:
                    return a != 0 && b != 0 ? 1 : 0;
                case LESS:
                    return a < b ? 1 : 0;
                case SAME:
                    return a == b ? 1 : 0;
                case PLUS:
                    return a + b;
                case LESSEN:
                    return a - b;
                default:
                    return a * b;
            }
        }
    }

    /** The tape, and what reads a text from it, token by token. */
    private static final class Reader {
        /** Words are tokens by their place in this list; signs are tokens by their bytes. */
        private static final String WORDS = "cap lane minute number ahead pie takes forwards minds or and not ";
        private static final int LAST_NAME = 5, FIRST_PART = 6, OR = 9, AND = 10, NOT = 11;
        private static final int NUMERAL = 12, END = 13, WRONG = 14;
        private static final String SIGNS = "();+-*<=";
        private static final int MOST_DIGITS = 4, MOST_OPEN = 5;

        private final Rules out;
        private final int[] bytes = new int[TAPE_ROOM];
        private int size;
        private int next;
        private int token;
        private int begin;
        private int numeral;

        Reader(Rules out) {
            this.out = out;
        }

        int size() {
            return size;
        }

        void empty() {
            size = 0;
        }

        boolean add(int letter) {
            if (size >= TAPE_ROOM) {
                return false;
            }
            bytes[size++] = letter;
            return true;
        }

        void lay(String letters) {
            for (int i = 0; i < letters.length(); i++) {
                add(letters.charAt(i));
            }
        }

        /** The place of the fault; NONE: there is none, and the rules have a text more. */
        int readText() {
            next = 0;
            out.beginText();
            step();
            for (int part = 0; part < PARTS; part++) {
                if (!readPart(part)) {
                    return begin;
                }
            }
            if (token != END) {
                return begin;
            }
            out.endText();
            return NONE;
        }

        /* Each of these reads what it is named after. Where it answers false, the token
           that can't stand there is the one at hand, so that its place is the fault's. */

        private boolean readPart(int part) {
            if (token != FIRST_PART + part) {
                return false;
            }
            step();
            out.beginPart(part);
            if (!readOr(0) || token != ';') {
                return false;
            }
            step();
            out.write(Rules.END);
            return true;
        }

        private boolean readOr(int open) {
            if (!readAnd(open)) {
                return false;
            }
            for (int i = 0; i < TAPE_ROOM && token == OR; i++) {
                step();
                if (!readAnd(open)) {
                    return false;
                }
                out.write(Rules.OR);
            }
            return true;
        }

        private boolean readAnd(int open) {
            if (!readNot(open)) {
                return false;
            }
            for (int i = 0; i < TAPE_ROOM && token == AND; i++) {
                step();
                if (!readNot(open)) {
                    return false;
                }
                out.write(Rules.AND);
            }
            return true;
        }

        private boolean readNot(int open) {
            if (token != NOT) {
                return readComparison(open);
            }
            if (open >= MOST_OPEN) {
                return false;
            }
            step();
            if (!readNot(open + 1)) {
                return false;
            }
            out.write(Rules.NOT);
            return true;
        }

        private boolean readComparison(int open) {
            if (!readSum(open)) {
                return false;
            }
            if (token != '<' && token != '=') {
                return true;
            }
            int sign = token;
            step();
            if (!readSum(open)) {
                return false;
            }
            out.write(sign == '<' ? Rules.LESS : Rules.SAME);
            return true;
        }

        private boolean readSum(int open) {
            if (!readTerm(open)) {
                return false;
            }
            for (int i = 0; i < TAPE_ROOM && (token == '+' || token == '-'); i++) {
                int sign = token;
                step();
                if (!readTerm(open)) {
                    return false;
                }
                out.write(sign == '+' ? Rules.PLUS : Rules.LESSEN);
            }
            return true;
        }

        private boolean readTerm(int open) {
            if (!readOne(open)) {
                return false;
            }
            for (int i = 0; i < TAPE_ROOM && token == '*'; i++) {
                step();
                if (!readOne(open)) {
                    return false;
                }
                out.write(Rules.TIMES);
            }
            return true;
        }

        private boolean readOne(int open) {
            if (token == NUMERAL) {
                out.write(numeral);
                step();
                return true;
            }
            if (token <= LAST_NAME) {
                out.write(Rules.NAME - token);
                step();
                return true;
            }
            if ((token != '-' && token != '(') || open >= MOST_OPEN) {
                return false;
            }
            boolean negated = token == '-';
            step();
            return negated ? readNegated(open + 1) : readEnclosed(open + 1);
        }

        private boolean readNegated(int open) {
            if (!readOne(open)) {
                return false;
            }
            out.write(Rules.NEGATE);
            return true;
        }

        private boolean readEnclosed(int open) {
            if (!readOr(open) || token != ')') {
                return false;
            }
            step();
            return true;
        }

        /** Takes the next token to hand. */
        private void step() {
            while (next < size && (bytes[next] == ' ' || bytes[next] == '\n')) {
                next++;
            }
            begin = next;
            if (next >= size) {
                token = END;
            } else if (isLetter(next)) {
                stepWord();
            } else if (isDigit(next)) {
                stepNumeral();
            } else {
                token = SIGNS.indexOf((char) bytes[next]) >= 0 ? bytes[next] : WRONG;
                next++;
            }
        }

        private void stepWord() {
            while (next < size && isLetter(next)) {
                next++;
            }
            token = WRONG;
            int word = 0;
            int from = 0;
            for (int i = 0; i < WORDS.length(); i++) {
                if (WORDS.charAt(i) == ' ') {
                    if (isSpelled(from, i)) {
                        token = word;
                    }
                    word++;
                    from = i + 1;
                }
            }
        }

        /** Whether the word at hand is that of the list from one place to another. */
        private boolean isSpelled(int from, int to) {
            if (next - begin != to - from) {
                return false;
            }
            for (int i = from; i < to; i++) {
                if (WORDS.charAt(i) != bytes[begin + i - from]) {
                    return false;
                }
            }
            return true;
        }

        private void stepNumeral() {
            numeral = 0;
            while (next < size && isDigit(next)) {
                numeral = numeral * 10 + bytes[next] - '0';
                next++;
            }
            token = next - begin > MOST_DIGITS ? WRONG : NUMERAL;
        }

        private boolean isLetter(int place) {
            return bytes[place] >= 'a' && bytes[place] <= 'z';
        }

        private boolean isDigit(int place) {
            return bytes[place] >= '0' && bytes[place] <= '9';
        }
    }

    /** What happens at the pumps, minute by minute, with the cars in some lanes. */
    private static final class Yard {
        private final Fleet fleet;
        private final Rules rules;
        private final int[] members = new int[LANE_COUNT];
        private final int[] starts = new int[MOST_CARS];
        private final int[] ends = new int[MOST_CARS];
        private final int[] off = new int[MOST_CARS];
        private final int[] place = new int[MOST_CARS];
        private final int[] share = new int[MOST_CARS];
        private final int[] queue = new int[MOST_CARS];
        private int queued;
        private int gone;
        private int front;
        private int back;
        private int vain;
        private boolean allForward;

        Yard(Fleet fleet, Rules rules) {
            this.fleet = fleet;
            this.rules = rules;
        }

        /** Every car is in the lane that is told of it. */
        void spread() {
            clearLanes();
            for (int car = 0; car < fleet.size(); car++) {
                join(car, fleet.tell(LANE, car));
            }
        }

        void spreadBySeed(int seed) {
            clearLanes();
            int z = seed;
            for (int car = 0; car < fleet.size(); car++) {
                z = z * 1103515245 + 12345;
                join(car, (z >>> 9) % LANE_COUNT);
            }
        }

        void leaveOut(int car) {
            for (int lane = 0; lane < LANE_COUNT; lane++) {
                members[lane] &= ~(1 << car);
            }
        }

        void sendAllForward(boolean all) {
            allForward = all;
        }

        /** All minutes of all lanes: the badness. */
        int playAll() {
            vain = 0;
            int badness = 0;
            for (int lane = 0; lane < LANE_COUNT; lane++) {
                badness += playLane(lane, members[lane]);
            }
            return badness;
        }

        /** All minutes of a lane with these cars (bits) in it: the badness of them. */
        int playLane(int lane, int cars) {
            front = NONE;
            back = NONE;
            lineUp(lane, cars);
            for (int minute = 0; minute < MINUTES; minute++) {
                leave(minute);
                driveUp(lane, minute);
                if (back != NONE && front == NONE) {
                    vain++;
                }
                if (back == NONE && front == NONE && gone == queued) {
                    break;
                }
            }
            return badness(lane, cars);
        }

        int starts(int car) {
            return fleet.has(car) ? starts[car] : NONE;
        }

        int off(int car) {
            return fleet.has(car) ? off[car] : NONE;
        }

        int place(int car) {
            return fleet.has(car) ? place[car] : NONE;
        }

        int waited(int car) {
            int till = starts(car) == NONE ? MINUTES : starts(car);
            return till - fleet.tell(COMES, car);
        }

        /** What a car has of the badness. */
        int share(int car) {
            return fleet.has(car) ? share[car] : 0;
        }

        int inVain() {
            return vain;
        }

        int whoIsAt(int lane, int minute, int pump) {
            for (int car = 0; car < fleet.size(); car++) {
                boolean there = place[car] == pump || place[car] == BOTH;
                boolean then = starts[car] <= minute && (off[car] == NONE || minute < off[car]);
                if (there && then && fleet.tell(LANE, car) == lane) {
                    return car;
                }
            }
            return NONE;
        }

        int lastOff() {
            int last = NONE;
            for (int car = 0; car < fleet.size(); car++) {
                if (off[car] == NONE) {
                    return NONE;
                }
                last = Math.max(last, off[car]);
            }
            return last;
        }

        int outOfOrder() {
            int pairs = 0;
            for (int car = 0; car < fleet.size(); car++) {
                for (int other = 0; other < fleet.size(); other++) {
                    boolean oneLane = fleet.tell(LANE, car) == fleet.tell(LANE, other);
                    boolean bothOff = off[car] != NONE && off[other] != NONE;
                    if (oneLane && bothOff && comesBefore(car, other) && off[car] > off[other]) {
                        pairs++;
                    }
                }
            }
            return pairs;
        }

        /** The bits of the cars that are off in another minute than was told. */
        int otherwise(Sheet told) {
            int bits = 0;
            for (int car = 0; car < fleet.size(); car++) {
                if (off[car] != told.item(car)) {
                    bits |= 1 << car;
                }
            }
            return bits;
        }

        boolean fits(int car, int lane) {
            return Kinds.fits(fleet.tell(KIND, car), fleet.tell(CAP, car), lane);
        }

        /** With nobody ahead, since a car that has one ahead at the front pump can't draw forward. */
        boolean drawsForward(int car, int lane, int minute) {
            boolean yes = allForward || rules.ask(FORWARDS, fleet, car, lane, minute, 0) != 0;
            return Kinds.drawsForward(fleet.tell(KIND, car), yes, fleet.tell(NUMBER, car));
        }

        int takes(int car, int lane, int minute, int ahead) {
            int v = within(MOST_TAKES, rules.ask(TAKES, fleet, car, lane, minute, ahead));
            int ofCar = v + fleet.tell(PIES, car);
            return Math.max(1, Kinds.minutes(fleet.tell(KIND, car), ofCar, fleet.tell(NUMBER, car)));
        }

        int minds(int car, int lane) {
            return within(MOST_MINDS, rules.ask(MINDS, fleet, car, lane, fleet.tell(COMES, car), 0));
        }

        private void clearLanes() {
            for (int lane = 0; lane < LANE_COUNT; lane++) {
                members[lane] = 0;
            }
        }

        private void join(int car, int lane) {
            if (lane >= 0 && lane < LANE_COUNT) {
                members[lane] |= 1 << car;
            }
        }

        private boolean comesBefore(int car, int other) {
            int first = fleet.tell(COMES, car);
            int second = fleet.tell(COMES, other);
            return first < second || (first == second && car < other);
        }

        /** Those that fit the lane queue in the order in which they come; nobody has driven up yet. */
        private void lineUp(int lane, int cars) {
            queued = 0;
            gone = 0;
            for (int car = 0; car < fleet.size(); car++) {
                if ((cars >> car & 1) == 0) {
                    continue;
                }
                starts[car] = NONE;
                off[car] = NONE;
                place[car] = NONE;
                if (fits(car, lane)) {
                    int at = queued++;
                    while (at > 0 && comesBefore(car, queue[at - 1])) {
                        queue[at] = queue[at - 1];
                        at--;
                    }
                    queue[at] = car;
                }
            }
        }

        /** One that is at both pumps is held as the one at each of them. */
        private void leave(int minute) {
            if (front != NONE && ends[front] <= minute) {
                off[front] = minute;
                back = back == front ? NONE : back;
                front = NONE;
            }
            if (back != NONE && front == NONE && ends[back] <= minute) {
                off[back] = minute;
                back = NONE;
            }
        }

        private void driveUp(int lane, int minute) {
            while (gone < queued && back == NONE && fleet.tell(COMES, queue[gone]) <= minute) {
                int car = queue[gone];
                int ahead = front == NONE ? 0 : 1;
                boolean isLong = Kinds.isLong(fleet.tell(KIND, car));
                if (isLong && ahead > 0) {
                    return;
                }
                gone++;
                starts[car] = minute;
                ends[car] = minute + takes(car, lane, minute, ahead);
                if (isLong) {
                    place[car] = BOTH;
                    front = car;
                    back = car;
                } else if (ahead == 0 && drawsForward(car, lane, minute)) {
                    place[car] = FRONT;
                    front = car;
                } else {
                    place[car] = BACK;
                    back = car;
                }
            }
        }

        private int badness(int lane, int cars) {
            int sum = 0;
            for (int car = 0; car < fleet.size(); car++) {
                if ((cars >> car & 1) != 0) {
                    share[car] = minds(car, lane) * waited(car);
                    sum += share[car];
                }
            }
            return sum;
        }

        private static int within(int most, int v) {
            return Math.max(0, Math.min(most, v));
        }
    }

    /** What would be best: each search leaves what it found, and what would be then. */
    private static final class Advice {
        private final Fleet fleet;
        private final Yard yard;
        private final int[][] laneBadness = new int[LANE_COUNT][1 << MOST_CARS];
        private final int[] members = new int[LANE_COUNT];
        private final int[] othersNow = new int[MOST_CARS];
        private int found;
        private int then;

        Advice(Fleet fleet, Yard yard) {
            this.fleet = fleet;
            this.yard = yard;
        }

        int answer(int what) {
            return what == 0 ? found : then;
        }

        /** The lane in which a car would be off first. */
        void seekLane(int car) {
            found = NONE;
            then = NONE;
            int was = fleet.tell(LANE, car);
            for (int lane = 0; lane < LANE_COUNT; lane++) {
                fleet.put(LANE, car, lane);
                yard.spread();
                yard.playAll();
                int off = yard.off(car);
                if (off != NONE && (found == NONE || off < then)) {
                    found = lane;
                    then = off;
                }
            }
            fleet.put(LANE, car, was);
        }

        /** The lanes of all by which the badness is least. */
        void seekLanes() {
            fillLaneBadness();
            found = 0;
            then = NONE;
            int ways = 1 << 2 * fleet.size();
            for (int way = 0; way < ways; way++) {
                int badness = badnessOfWay(way);
                if (then == NONE || badness < then) {
                    found = way;
                    then = badness;
                }
            }
            found = digits(found);
        }

        /** The minute in which a car would have to come to wait least. */
        void seekMinute(int car) {
            found = NONE;
            then = NONE;
            int was = fleet.tell(COMES, car);
            for (int minute = 0; minute <= HIGHEST[COMES]; minute++) {
                fleet.put(COMES, car, minute);
                yard.spread();
                yard.playAll();
                int waited = yard.waited(car);
                if (found == NONE || waited < then) {
                    found = minute;
                    then = waited;
                }
            }
            fleet.put(COMES, car, was);
        }

        /** The car without which the others would be better off by most. */
        void seekBlame() {
            yard.spread();
            found = NONE;
            then = yard.playAll();
            for (int car = 0; car < fleet.size(); car++) {
                othersNow[car] = then - yard.share(car);
            }
            int most = 0;
            for (int car = 0; car < fleet.size(); car++) {
                yard.spread();
                yard.leaveOut(car);
                int without = yard.playAll();
                if (othersNow[car] - without > most) {
                    most = othersNow[car] - without;
                    found = car;
                    then = without;
                }
            }
        }

        static int commonDivisor(int a, int b) {
            int x = a;
            int y = b;
            for (int i = 0; i < 64 && y != 0; i++) {
                int rest = x % y;
                x = y;
                y = rest;
            }
            return x == 0 ? 1 : x;
        }

        /** Lanes do not touch each other, so each is played but once with each set of cars. */
        private void fillLaneBadness() {
            for (int lane = 0; lane < LANE_COUNT; lane++) {
                for (int cars = 0; cars < 1 << fleet.size(); cars++) {
                    laneBadness[lane][cars] = yard.playLane(lane, cars);
                }
            }
        }

        private int badnessOfWay(int way) {
            for (int lane = 0; lane < LANE_COUNT; lane++) {
                members[lane] = 0;
            }
            for (int car = 0; car < fleet.size(); car++) {
                members[laneInWay(way, car)] |= 1 << car;
            }
            int badness = 0;
            for (int lane = 0; lane < LANE_COUNT; lane++) {
                badness += laneBadness[lane][members[lane]];
            }
            return badness;
        }

        /** A way has two bits for each car, car 0's the highest, so that ways come in the order that is asked. */
        private int laneInWay(int way, int car) {
            return way >> 2 * (fleet.size() - 1 - car) & 3;
        }

        private int digits(int way) {
            int number = 0;
            for (int car = 0; car < fleet.size(); car++) {
                number = number * 10 + laneInWay(way, car) + 1;
            }
            return number;
        }
    }

    /** A row of numbers of a sort, or a missing one. */
    private static final class Sheet {
        private final int[] items = new int[SHEET_ROOM];
        private int sort = MISSING;
        private int size;

        int size() {
            return size;
        }

        int sort() {
            return sort;
        }

        boolean isMissing() {
            return sort == MISSING;
        }

        void become(int newSort, int n) {
            sort = newSort;
            size = Math.max(0, Math.min(SHEET_ROOM, n));
            for (int i = 0; i < size; i++) {
                items[i] = 0;
            }
        }

        boolean hasRun(int i, int n) {
            return i >= 0 && n >= 0 && i <= size && n <= size - i;
        }

        int item(int i) {
            return i >= 0 && i < size ? items[i] : 0;
        }

        /** Whether there is such an item. */
        boolean put(int i, int v) {
            if (i < 0 || i >= size) {
                return false;
            }
            items[i] = narrow(v);
            return true;
        }

        void putRun(int j, Sheet from, int i, int n) {
            if (hasRun(j, n) && from.hasRun(i, n)) {
                System.arraycopy(from.items, i, items, j, n);
            }
        }

        private int narrow(int v) {
            if (sort == 0) {
                return (byte) v;
            }
            return sort == SHORTS ? (short) v : v;
        }
    }
}
