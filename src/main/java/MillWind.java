import java.util.Arrays;

/** A mill in a wind: what it does is told, as numbered promises, in ../shared/DOC.md. */
public final class MillWind {
    public static final int NONE = -1, BAD = -2, STATE = -3, FULL = -4;
    public static final long NO = Long.MIN_VALUE;

    private static final int MILLS = 5, WINDS = 6, SETTINGS = 8, CLOTHS = 4, STEPS = 10;
    private static final int LAST_HOUR = 999;
    /** The answer where an HOUR, or a REST, is asked for and there is none. */
    private static final int NOWHERE = -5;
    private static final int OTHER_KIND = -6;
    /** The least that three MILLS of a RIDGE can grind. */
    private static final int ALL_AWAY = -3;
    /** Numbers of MILLS are 0 or more, so a FAULT is told from here downwards. */
    private static final int FAULTS = -10;
    /** MEAL may be -1, so the refusals of go() lie this much below the common ones. */
    private static final int BELOW_MEAL = -10;

    /** Places for MILLS. Ones that are in THE IMAGE are never written again: it needs their number alone. */
    private final Mill[] mills = new Mill[MILLS];
    private final State now = new State();
    private final State image = new State();
    private final Reader reader = new Reader();
    private final Planner planner = new Planner();
    private final Acts acts = new Acts();
    private boolean hasImage;

    public MillWind() {
        for (int i = 0; i < MILLS; i++) {
            mills[i] = new Mill();
        }
    }

    // ---- mills, winds

    public int feed(long w, int n) {
        if (!within(n, 1, 8)) {
            return BAD;
        }
        if (now.tape.size + n > Tape.MOST) {
            return FULL;
        }
        now.tape.append(w, n);
        return now.tape.size;
    }

    public int mill() {
        if (now.mills >= MILLS) {
            return FULL;
        }
        int fault = reader.read(now.tape, mills[now.mills]);
        now.tape.size = 0;
        if (fault >= 0) {
            return FAULTS - fault;
        }
        now.mills++;
        return now.mills - 1;
    }

    public int hour(int mill, int wind, int setting, int heat, int dull, int what) {
        if (!isMill(mill) || !isWind(wind) || !within(what, 0, 5)) {
            return NONE;
        }
        if (!isSetting(setting) || !within(heat, 0, STEPS - 1) || !within(dull, 0, STEPS - 1)) {
            return BAD;
        }
        int hour = mills[mill].hourBy(wind, setting, heat, dull);
        switch (what) {
            case 0: return Mill.fastOf(hour);
            case 1: return Mill.gainOf(hour);
            case 2: return Mill.heatOf(hour);
            case 3: return Mill.dullOf(hour);
            case 4: return Mill.isBurnt(hour) ? 1 : 0;
            default: return Mill.isAway(hour) ? 1 : 0;
        }
    }

    public int wind(int wind, int a, int b, int c, int d, int e) {
        if (!isWind(wind)) {
            return NONE;
        }
        if (!isChance(a) || !isChance(b) || !isChance(c) || !isChance(d) || !isChance(e)) {
            return BAD;
        }
        if (a + b + c + d + e > Winds.WHOLE) {
            return BAD;
        }
        now.winds.follow(wind, 0, a);
        now.winds.follow(wind, 1, b);
        now.winds.follow(wind, 2, c);
        now.winds.follow(wind, 3, d);
        now.winds.follow(wind, 4, e);
        now.winds.follow(wind, 5, Winds.WHOLE - a - b - c - d - e);
        planner.forget();
        return 1;
    }

    public int chance(int wind, int next) {
        return isWind(wind) && isWind(next) ? now.winds.chanceOf(wind, next) : NONE;
    }

    public int lead(int mill) {
        if (!isMill(mill)) {
            return NONE;
        }
        now.led.begin(mill);
        planner.forget();
        return 1;
    }

    public int led(int what) {
        if (!within(what, 0, 5)) {
            return NONE;
        }
        if (!isLed()) {
            return STATE;
        }
        switch (what) {
            case 0: return now.led.mill;
            case 1: return now.led.hour;
            case 2: return now.led.heat;
            case 3: return now.led.dull;
            case 4: return now.led.flour;
            default: return now.led.away ? 1 : 0;
        }
    }

    public int go(int wind, int setting) {
        if (!isWind(wind)) {
            return BELOW_MEAL + NONE;
        }
        if (!isSetting(setting)) {
            return BELOW_MEAL + BAD;
        }
        if (!isLed() || now.led.hour >= LAST_HOUR) {
            return BELOW_MEAL + STATE;
        }
        return now.led.goOn(mills[now.led.mill], wind, setting);
    }

    // ---- rules

    public int rule(int kind, int v) {
        if (!within(kind, 0, Rules.KINDS - 1)) {
            return NONE;
        }
        if (!within(v, 0, 7)) {
            return BAD;
        }
        if (now.rules.size >= Rules.MOST) {
            return FULL;
        }
        return now.rules.append(kind, v);
    }

    public int row(int rule, int setting) {
        if (!isRule(rule)) {
            return NONE;
        }
        if (!isSetting(setting)) {
            return BAD;
        }
        if (now.rules.kinds[rule] != Rules.TOLD) {
            return STATE;
        }
        if (now.rules.rowSizes[rule] >= Rules.ROW) {
            return FULL;
        }
        return now.rules.appendToRow(rule, setting);
    }

    public int sets(int rule, int t, int left, int wind, int before) {
        if (!isRule(rule) || !isWind(wind) || !isWind(before)) {
            return NONE;
        }
        if (!within(t, 0, 9) || !within(left, 1, Planner.HOURS)) {
            return BAD;
        }
        if (!isLed()) {
            return STATE;
        }
        planner.begin(mills[now.led.mill], now.winds);
        planner.followRule(now.rules, rule);
        return planner.settingAt(t, left, wind, before, now.led.heat, now.led.dull);
    }

    public long mean(int rule, int n, int wind, int what) {
        if (!isRule(rule) || !within(n, 1, Planner.HOURS) || !isWind(wind)) {
            return NO;
        }
        if (!within(what, 0, 1) || !isLed()) {
            return NO;
        }
        if (now.led.away) {
            return 0;
        }
        planner.begin(mills[now.led.mill], now.winds);
        planner.followRule(now.rules, rule);
        return what == 0
            ? planner.meanFor(n, wind, now.led.heat, now.led.dull)
            : planner.awayFor(n, wind, now.led.heat, now.led.dull);
    }

    public long best(int n, int wind, int what) {
        if (!within(n, 1, Planner.HOURS) || !isWind(wind) || !within(what, 0, 2) || !isLed()) {
            return NO;
        }
        if (now.led.away) {
            return 0;
        }
        int heat = now.led.heat;
        int dull = now.led.dull;
        planner.begin(mills[now.led.mill], now.winds);
        switch (what) {
            case 0: return planner.bestSetting(n, wind, heat, dull);
            case 1: return planner.bestWorth(n, wind, heat, dull);
            default: return planner.looking(n, wind, heat, dull);
        }
    }

    public int dress(int n, int wind) {
        if (!isWind(wind)) {
            return NONE;
        }
        if (!within(n, 1, 4)) {
            return BAD;
        }
        if (!isLed()) {
            return STATE;
        }
        if (now.led.away) {
            return NOWHERE;
        }
        planner.begin(mills[now.led.mill], now.winds);
        return planner.dressing(n, wind, now.led.heat, now.led.dull);
    }

    // ---- days told, orders

    public int day(int wind, int setting) {
        if (wind == -1) {
            now.day.size = 0;
            return 0;
        }
        if (!isWind(wind)) {
            return NONE;
        }
        if (!isSetting(setting)) {
            return BAD;
        }
        if (now.day.size >= Day.MOST) {
            return FULL;
        }
        return now.day.append(wind, setting);
    }

    public int judged(int what) {
        if (!within(what, 0, 3)) {
            return NONE;
        }
        if (!isLed() || now.led.away) {
            return STATE;
        }
        return now.day.judge(mills[now.led.mill], now.led.heat, now.led.dull, what);
    }

    public int order(int hours, int due, int price) {
        if (!within(hours, 1, 20) || !within(due, 1, 99) || !within(price, 0, 99)) {
            return BAD;
        }
        if (now.orders.size >= Orders.MOST) {
            return FULL;
        }
        return now.orders.append(hours, due, price);
    }

    public int take() {
        return now.orders.dearest();
    }

    public int late(int orders) {
        if (!within(orders, 0, (1 << now.orders.size) - 1)) {
            return BAD;
        }
        return now.orders.lateOf(orders);
    }

    // ---- ridges, runs

    public int ridge(int a, int b, int c, int wind, int what) {
        if (!isMill(a) || !isMill(b) || !isMill(c) || !isWind(wind) || !within(what, 0, 1)) {
            return NONE;
        }
        int most = ALL_AWAY;
        int rest = NOWHERE;
        int atRest = 0;
        for (int row = 0; row < CLOTHS * CLOTHS * CLOTHS; row++) {
            int ca = row / (CLOTHS * CLOTHS);
            int cb = row / CLOTHS % CLOTHS;
            int cc = row % CLOTHS;
            int windB = Math.max(0, wind - ca);
            int windC = Math.max(0, wind - ca - cb);
            int all = ground(a, wind, ca) + ground(b, windB, cb) + ground(c, windC, cc);
            most = Math.max(most, all);
            if (rest == NOWHERE && rests(a, wind, ca) && rests(b, windB, cb) && rests(c, windC, cc)) {
                rest = 100 * ca + 10 * cb + cc;
                atRest = all;
            }
        }
        if (what == 0) {
            return rest;
        }
        return rest == NOWHERE ? 1 : atRest - most;
    }

    public long run(int rule, int n, int seed, int wind) {
        if (!isRule(rule) || !within(n, 1, 30) || !within(seed, 0, 999) || !isWind(wind)) {
            return NO;
        }
        if (!isLed() || now.led.hour + n > LAST_HOUR) {
            return NO;
        }
        Mill mill = mills[now.led.mill];
        planner.begin(mill, now.winds);
        planner.followRule(now.rules, rule);
        int flour = now.led.flour;
        int before = wind;
        int here = wind;
        for (int t = 0; t < n; t++) {
            int setting = planner.settingAt(t, n - t, here, before, now.led.heat, now.led.dull);
            now.led.goOn(mill, here, setting);
            before = here;
            here = now.winds.nextBy(here, (seed * 31 + now.led.hour * 17) * 7 % Winds.WHOLE);
        }
        return now.led.flour - flour;
    }

    // ---- acts, the image

    public int act(int rule, int act, int x) {
        acts.clear();
        if (!isRule(rule) || !within(act, 0, Acts.ACTS - 1)) {
            return 0;
        }
        return acts.begin(now.rules, rule, act, x);
    }

    public int trace(int i) {
        return within(i, 0, acts.kept() - 1) ? acts.numbers[i] : NONE;
    }

    public int as(int rule, int k) {
        if (!isRule(rule) || !within(k, 0, Rules.KINDS - 1)) {
            return NONE;
        }
        return Rules.isUnder(now.rules.kinds[rule], k) ? now.rules.values[rule] : OTHER_KIND;
    }

    public int image() {
        image.copyFrom(now);
        hasImage = true;
        return image.mills;
    }

    public int undo() {
        if (!hasImage) {
            return STATE;
        }
        now.copyFrom(image);
        planner.forget();
        return now.mills;
    }

    public int count(int what) {
        switch (what) {
            case 0: return now.mills;
            case 1: return now.rules.size;
            case 2: return now.day.size;
            case 3: return now.orders.size;
            case 4: return now.tape.size;
            case 5: return acts.ran;
            default: return NONE;
        }
    }

    // ---- what the calls ask of their numbers

    private static boolean within(int x, int least, int most) {
        return x >= least && x <= most;
    }

    private static boolean isWind(int wind) {
        return within(wind, 0, WINDS - 1);
    }

    private static boolean isSetting(int setting) {
        return within(setting, 0, SETTINGS - 1);
    }

    private static boolean isChance(int chance) {
        return within(chance, 0, Winds.WHOLE);
    }

    private boolean isMill(int mill) {
        return within(mill, 0, now.mills - 1);
    }

    private boolean isRule(int rule) {
        return within(rule, 0, now.rules.size - 1);
    }

    private boolean isLed() {
        return isMill(now.led.mill);
    }

    /** What a MILL of a RIDGE grinds, -1 if it RUNS AWAY. */
    private int ground(int mill, int wind, int cloth) {
        return Mill.gainOf(mills[mill].hourBy(wind, cloth * 2, 0, 0));
    }

    /** Whether a MILL of a RIDGE would grind no more by other CLOTH. */
    private boolean rests(int mill, int wind, int cloth) {
        int mine = ground(mill, wind, cloth);
        for (int other = 0; other < CLOTHS; other++) {
            if (ground(mill, wind, other) > mine) {
                return false;
            }
        }
        return true;
    }

    /** All that THE IMAGE keeps. */
    private static final class State {
        int mills;
        final Tape tape = new Tape();
        final Winds winds = new Winds();
        final Led led = new Led();
        final Rules rules = new Rules();
        final Day day = new Day();
        final Orders orders = new Orders();

        void copyFrom(State other) {
            mills = other.mills;
            tape.copyFrom(other.tape);
            winds.copyFrom(other.winds);
            led.copyFrom(other.led);
            rules.copyFrom(other.rules);
            day.copyFrom(other.day);
            orders.copyFrom(other.orders);
        }
    }

    /** THE TAPE. */
    private static final class Tape {
        static final int MOST = 120;
        private final byte[] bytes = new byte[MOST];
        int size;

        void append(long w, int n) {
            for (int i = n - 1; i >= 0 && size < MOST; i--) {
                bytes[size] = (byte) (w >>> 8 * i);
                size++;
            }
        }

        /** The byte (0 .. 255) at a place, -1 behind the last one. */
        int at(int place) {
            return place >= 0 && place < size ? bytes[place] & 255 : -1;
        }

        void copyFrom(Tape other) {
            System.arraycopy(other.bytes, 0, bytes, 0, MOST);
            size = other.size;
        }
    }

    /** Reads a MILL from THE TAPE: where a part does not go on, the place stays, and that is the FAULT. */
    private static final class Reader {
        private static final String FIRSTS = "fmhwceb";
        private static final String WORDS = "fastmealheatwearcooledgeburn";
        private static final String SIGNS = "wcshdf";
        private static final String SIDES = "<=>";
        private static final int LETTERS = 4, OPEN = 5;
        private Tape tape;
        private Mill mill;
        private int place;

        /** The FAULT, or -1. */
        int read(Tape from, Mill to) {
            tape = from;
            mill = to;
            place = 0;
            mill.clear();
            boolean fine = readClause();
            for (int i = 1; i < Mill.CLAUSES && fine && tape.at(place) == ';'; i++) {
                place++;
                fine = readClause();
            }
            return fine && place == tape.size ? -1 : place;
        }

        private boolean readClause() {
            int kind = placeIn(FIRSTS);
            if (kind < 0) {
                return false;
            }
            for (int i = 0; i < LETTERS; i++) {
                if (!pass(WORDS.charAt(kind * LETTERS + i))) {
                    return false;
                }
            }
            int n = pass(' ') ? readNumber() : -1;
            if (n < 0) {
                return false;
            }
            if (kind <= Mill.WEAR && !(pass(' ') && readAny(0))) {
                return false;
            }
            mill.appendClause(kind, n);
            return true;
        }

        /** E, with so many of ! and ( open. */
        private boolean readAny(int open) {
            boolean fine = readAll(open);
            for (int i = 0; i < Tape.MOST && fine && pass('|'); i++) {
                fine = readAll(open);
                mill.appendCode(Mill.OR);
            }
            return fine;
        }

        /** T, with so many of ! and ( open. */
        private boolean readAll(int open) {
            boolean fine = readOne(open);
            for (int i = 0; i < Tape.MOST && fine && pass('&'); i++) {
                fine = readOne(open);
                mill.appendCode(Mill.AND);
            }
            return fine;
        }

        /** F, with so many of ! and ( open. */
        private boolean readOne(int open) {
            int deep = open;
            while (deep < OPEN && pass('!')) {
                deep++;
            }
            boolean fine;
            if (deep < OPEN && pass('(')) {
                fine = readAny(deep + 1) && pass(')');
            } else {
                fine = readTest();
            }
            // of ! in pairs nothing is left
            if ((deep - open) % 2 == 1) {
                mill.appendCode(Mill.NOT);
            }
            return fine;
        }

        private boolean readTest() {
            int sign = placeIn(SIGNS);
            if (sign < 0) {
                return false;
            }
            place++;
            int side = placeIn(SIDES);
            if (side < 0) {
                return false;
            }
            place++;
            int n = readNumber();
            if (n < 0) {
                return false;
            }
            mill.appendCode((sign * SIDES.length() + side) * 100 + n);
            return true;
        }

        /** A number of 1 or 2 digits, or -1. */
        private int readNumber() {
            int first = digit();
            if (first < 0) {
                return -1;
            }
            place++;
            int second = first == 0 ? -1 : digit();
            if (second < 0) {
                return first;
            }
            place++;
            return first * 10 + second;
        }

        private int digit() {
            int b = tape.at(place);
            return b >= '0' && b <= '9' ? b - '0' : -1;
        }

        private boolean pass(char c) {
            boolean fits = tape.at(place) == c;
            if (fits) {
                place++;
            }
            return fits;
        }

        private int placeIn(String letters) {
            int b = tape.at(place);
            return b < 0 ? -1 : letters.indexOf((char) b);
        }
    }

    /** A MILL: its clauses, and AN HOUR of it by all that it hangs on, reckoned when first asked for. */
    private static final class Mill {
        static final int CLAUSES = 10;
        static final int FAST = 0, MEAL = 1, HEAT = 2, WEAR = 3, COOL = 4, EDGE = 5;
        static final int NOT = -1, AND = -2, OR = -3;
        private static final int SIGNS = 6, FASTEST = 99, UNTOLD = 99;
        // an HOUR in one int: FAST in the lowest 7 bits, then MEAL, HEAT, DULL, then these
        private static final int MEAL_AT = 7, HEAT_AT = 17, DULL_AT = 21;
        private static final int BURNT = 1 << 25, AWAY = 1 << 26, KNOWN = 1 << 27;

        /** Of each clause with an E: its word, its n, and where the code of its E ends. */
        private final int[] kinds = new int[CLAUSES];
        private final int[] amounts = new int[CLAUSES];
        private final int[] ends = new int[CLAUSES];
        /** All E, one behind the other: each TEST (as sign, side, number) or NOT, AND, OR behind its parts. */
        private final int[] code = new int[Tape.MOST];
        /** What w, c, s, h, d, f are. */
        private final int[] signs = new int[SIGNS];
        private final int[] hours = new int[WINDS * SETTINGS * STEPS * STEPS];
        private int clauses, codes, cool, edge, burn;

        void clear() {
            Arrays.fill(hours, 0);
            clauses = 0;
            codes = 0;
            cool = 0;
            edge = UNTOLD;
            burn = UNTOLD;
        }

        void appendCode(int part) {
            if (codes < code.length) {
                code[codes] = part;
                codes++;
            }
        }

        /** A clause; its E is the code that came since the last one. */
        void appendClause(int kind, int n) {
            if (kind == COOL) {
                cool = n;
            } else if (kind == EDGE) {
                edge = n;
            } else if (kind > EDGE) {
                burn = n;
            } else if (clauses < CLAUSES) {
                kinds[clauses] = kind;
                amounts[clauses] = n;
                ends[clauses] = codes;
                clauses++;
            }
        }

        /** AN HOUR, in one int. */
        int hourBy(int wind, int setting, int heat, int dull) {
            int at = ((wind * SETTINGS + setting) * STEPS + heat) * STEPS + dull;
            if (at < 0 || at >= hours.length) {
                return AWAY;
            }
            if (hours[at] != 0) {
                return hours[at];
            }
            signs[0] = wind;
            signs[1] = setting / 2;
            signs[2] = setting % 2;
            signs[3] = heat;
            signs[4] = dull;
            signs[5] = 0;
            int fast = Math.min(FASTEST, together(FAST));
            signs[5] = fast;
            int hour = KNOWN | fast;
            if (fast > edge) {
                hour |= AWAY | heat << HEAT_AT | dull << DULL_AT;
            } else {
                hour |= toStep(heat + together(HEAT) - cool) << HEAT_AT;
                hour |= toStep(dull + together(WEAR)) << DULL_AT;
                hour |= heat >= burn ? BURNT : together(MEAL) << MEAL_AT;
            }
            hours[at] = hour;
            return hour;
        }

        private static int toStep(int x) {
            return Math.max(0, Math.min(STEPS - 1, x));
        }

        /** The n of all clauses with a word whose E holds. */
        private int together(int kind) {
            int sum = 0;
            for (int i = 0; i < clauses; i++) {
                if (kinds[i] == kind && holds(i == 0 ? 0 : ends[i - 1], ends[i])) {
                    sum += amounts[i];
                }
            }
            return sum;
        }

        private boolean holds(int from, int end) {
            // truths as bits, the latest lowest; two wait at most in each of 6 depths, so an int has room
            int truths = 0;
            for (int i = from; i < end; i++) {
                int part = code[i];
                if (part == NOT) {
                    truths = truths ^ 1;
                } else if (part == AND) {
                    truths = (truths >>> 1) & (truths | ~1);
                } else if (part == OR) {
                    truths = (truths >>> 1) | (truths & 1);
                } else {
                    int sign = part / 300;
                    int value = sign >= 0 && sign < SIGNS ? signs[sign] : 0;
                    int n = part % 100;
                    int side = value < n ? 0 : value == n ? 1 : 2;
                    truths = truths << 1 | (side == part / 100 % 3 ? 1 : 0);
                }
            }
            return (truths & 1) == 1;
        }

        static int fastOf(int hour) {
            return hour & 127;
        }

        /** MEAL, 0 also if it is BURNT or it RUNS AWAY. */
        static int mealOf(int hour) {
            return hour >>> MEAL_AT & 1023;
        }

        /** MEAL, but -1 if it RUNS AWAY. */
        static int gainOf(int hour) {
            return isAway(hour) ? -1 : mealOf(hour);
        }

        static int heatOf(int hour) {
            return hour >>> HEAT_AT & 15;
        }

        static int dullOf(int hour) {
            return hour >>> DULL_AT & 15;
        }

        static boolean isBurnt(int hour) {
            return (hour & BURNT) != 0;
        }

        static boolean isAway(int hour) {
            return (hour & AWAY) != 0;
        }
    }

    /** CHANCES of each WIND to be followed by each one. */
    private static final class Winds {
        static final int WHOLE = 1000;
        private final int[] chances = new int[WINDS * WINDS];

        Winds() {
            for (int i = 0; i < WINDS; i++) {
                chances[i * WINDS + i] = WHOLE;
            }
        }

        void follow(int wind, int next, int chance) {
            int at = wind * WINDS + next;
            if (at >= 0 && at < chances.length) {
                chances[at] = chance;
            }
        }

        int chanceOf(int wind, int next) {
            int at = wind * WINDS + next;
            return at >= 0 && at < chances.length ? chances[at] : 0;
        }

        /** The first WIND with which the CHANCES up to it are more than a number, or the last that has one. */
        int nextBy(int wind, int number) {
            int last = wind;
            int sum = 0;
            for (int next = 0; next < WINDS; next++) {
                int chance = chanceOf(wind, next);
                sum += chance;
                if (sum > number) {
                    return next;
                }
                if (chance > 0) {
                    last = next;
                }
            }
            return last;
        }

        void copyFrom(Winds other) {
            System.arraycopy(other.chances, 0, chances, 0, chances.length);
        }
    }

    /** The MILL that is LED. */
    private static final class Led {
        int mill = -1;
        int hour, heat, dull, flour;
        boolean away;

        void begin(int number) {
            mill = number;
            hour = 0;
            heat = 0;
            dull = 0;
            flour = 0;
            away = false;
        }

        /** It goes AN HOUR: MEAL, -1 if it has RUN AWAY. */
        int goOn(Mill by, int wind, int setting) {
            hour++;
            if (away) {
                return -1;
            }
            int gone = by.hourBy(wind, setting, heat, dull);
            away = Mill.isAway(gone);
            heat = Mill.heatOf(gone);
            dull = Mill.dullOf(gone);
            flour += Mill.mealOf(gone);
            return Mill.gainOf(gone);
        }

        void copyFrom(Led other) {
            mill = other.mill;
            hour = other.hour;
            heat = other.heat;
            dull = other.dull;
            flour = other.flour;
            away = other.away;
        }
    }

    /** RULES, their KINDS and ROWS. */
    private static final class Rules {
        static final int MOST = 10, ROW = 10, KINDS = 7;
        static final int FIXED = 1, SIGN = 2, WATCH = 3, BEST = 4, SAFE = 5, TOLD = 6;
        /** Of each KIND the one above, -1 of the first. */
        private static final int[] ABOVE = {-1, 0, 0, 0, 3, 4, 1};
        final int[] kinds = new int[MOST];
        final int[] values = new int[MOST];
        final int[] rowSizes = new int[MOST];
        private final int[] rows = new int[MOST * ROW];
        int size;

        int append(int kind, int v) {
            if (size >= MOST) {
                return FULL;
            }
            kinds[size] = kind;
            values[size] = v;
            rowSizes[size] = 0;
            size++;
            return size - 1;
        }

        int appendToRow(int rule, int setting) {
            int place = rowSizes[rule];
            if (place < 0 || place >= ROW) {
                return FULL;
            }
            rows[rule * ROW + place] = setting;
            rowSizes[rule] = place + 1;
            return place + 1;
        }

        /** The SETTING that the ROW tells for t, its v without a ROW. */
        int told(int rule, int t) {
            int many = rowSizes[rule];
            return many <= 0 || t < 0 ? values[rule] : rows[rule * ROW + t % many];
        }

        /** The KIND above, -1 if there is none. */
        static int above(int kind) {
            return kind >= 0 && kind < KINDS ? ABOVE[kind] : -1;
        }

        /** Whether a KIND is another one, or one under that. */
        static boolean isUnder(int kind, int other) {
            int here = kind;
            for (int i = 0; i < KINDS && here >= 0; i++) {
                if (here == other) {
                    return true;
                }
                here = above(here);
            }
            return false;
        }

        void copyFrom(Rules other) {
            System.arraycopy(other.kinds, 0, kinds, 0, MOST);
            System.arraycopy(other.values, 0, values, 0, MOST);
            System.arraycopy(other.rowSizes, 0, rowSizes, 0, MOST);
            System.arraycopy(other.rows, 0, rows, 0, rows.length);
            size = other.size;
        }
    }

    /** What a RULE sets, what it brings in the MEAN, and BEST, from the last HOUR back. */
    private static final class Planner {
        static final int HOURS = 6;
        private static final int NEVER = -1;
        private static final int AHEAD = 3, MILLION = 1000000;
        /** An HOUR with no MEAL, and HEAT and DULL 0 behind it. */
        private static final int DRESSED = 0;
        private static final int ALL = 255, STONES_0 = 0x55, STONES_1 = 0xAA;
        private static final int PLACES = STEPS * STEPS;
        /** BEST for n HOURS by WIND, HEAT, DULL: its worth times 8, and its SETTING. */
        private final int[] bests = new int[(HOURS + 1) * WINDS * PLACES];
        private final int[] bestStamps = new int[bests.length];
        /** What comes in the mean from an HOUR on, by t, the WIND before, WIND, HEAT, DULL. */
        private final int[] means = new int[HOURS * WINDS * WINDS * PLACES];
        private final int[] meanStamps = new int[means.length];
        // numbers with another stamp are of an older question
        private int bestStamp = 1, meanStamp = 1;
        private Mill mill;
        private Winds winds;
        private Rules rules;
        private int rule, kind, v, hours, dressAt;
        private boolean asksAway;

        /** What is known of BEST holds no more: another MILL is LED, or CHANCES are others. */
        void forget() {
            bestStamp++;
        }

        void begin(Mill led, Winds chances) {
            mill = led;
            winds = chances;
        }

        void followRule(Rules all, int number) {
            rules = all;
            rule = number;
            kind = all.kinds[number];
            v = all.values[number];
        }

        private void followKind(int asKind, int asV) {
            kind = asKind;
            v = asV;
        }

        /** The SETTING by the RULE that is followed. */
        int settingAt(int t, int left, int wind, int before, int heat, int dull) {
            int ahead = Math.min(left, AHEAD);
            switch (kind) {
                case Rules.FIXED: return v;
                case Rules.SIGN: return mostMeal(before, heat, dull, v % 2 == 0 ? STONES_0 : STONES_1);
                case Rules.WATCH: return mostMeal(wind, heat, dull, ALL);
                case Rules.BEST: return bestFrom(ahead, wind, heat, dull) % SETTINGS;
                case Rules.SAFE: return greatest(ahead, wind, heat, dull, safeOnes(heat, dull)) % SETTINGS;
                case Rules.TOLD: return rules.told(rule, t);
                default: return 0;
            }
        }

        /** Of a set of SETTINGS that with the greatest MEAL that counts, 0 if there is none. */
        private int mostMeal(int wind, int heat, int dull, int among) {
            int most = -1;
            int which = 0;
            for (int s = 0; s < SETTINGS; s++) {
                int hour = mill.hourBy(wind, s, heat, dull);
                boolean counts = (among >> s & 1) == 1 && !Mill.isBurnt(hour) && !Mill.isAway(hour);
                if (counts && Mill.mealOf(hour) > most) {
                    most = Mill.mealOf(hour);
                    which = s;
                }
            }
            return which;
        }

        /** The set of SETTINGS by which it does not RUN AWAY with any WIND of v or less. */
        private int safeOnes(int heat, int dull) {
            int safe = ALL;
            for (int wind = 0; wind < WINDS && wind <= v; wind++) {
                for (int s = 0; s < SETTINGS; s++) {
                    if (Mill.isAway(mill.hourBy(wind, s, heat, dull))) {
                        safe &= ~(1 << s);
                    }
                }
            }
            return safe;
        }

        int bestSetting(int n, int wind, int heat, int dull) {
            return bestFrom(n, wind, heat, dull) % SETTINGS;
        }

        int bestWorth(int n, int wind, int heat, int dull) {
            return bestFrom(n, wind, heat, dull) / SETTINGS;
        }

        int looking(int n, int wind, int heat, int dull) {
            int most = 0;
            for (int s = 0; s < SETTINGS; s++) {
                followKind(Rules.FIXED, s);
                startMean(n, NEVER, false);
                most = Math.max(most, meanFrom(0, wind, wind, heat, dull));
            }
            return bestFrom(n, wind, heat, dull) / SETTINGS - most;
        }

        int dressing(int n, int wind, int heat, int dull) {
            followKind(Rules.WATCH, 0);
            startMean(n, NEVER, false);
            int most = meanFrom(0, wind, wind, heat, dull);
            int which = NOWHERE;
            for (int at = 0; at < n; at++) {
                startMean(n, at, false);
                int worth = meanFrom(0, wind, wind, heat, dull);
                if (worth > most) {
                    most = worth;
                    which = at;
                }
            }
            return which;
        }

        private int bestFrom(int n, int wind, int heat, int dull) {
            int at = (n * WINDS + wind) * PLACES + heat * STEPS + dull;
            if (n < 1 || at < 0 || at >= bests.length) {
                return 0;
            }
            if (bestStamps[at] != bestStamp) {
                bests[at] = greatest(n, wind, heat, dull, ALL);
                bestStamps[at] = bestStamp;
            }
            return bests[at];
        }

        /** Of a set of SETTINGS the one that BEST takes: its worth times 8, and it; 0, if there is none. */
        private int greatest(int n, int wind, int heat, int dull, int among) {
            int most = -1;
            int which = 0;
            for (int s = 0; s < SETTINGS; s++) {
                int worth = (among >> s & 1) == 1 ? worthOf(n, wind, s, heat, dull) : -1;
                if (worth > most) {
                    most = worth;
                    which = s;
                }
            }
            return most < 0 ? 0 : most * SETTINGS + which;
        }

        /** MEAL by a SETTING times 1000, and the mean of what comes behind by BEST. */
        private int worthOf(int n, int wind, int setting, int heat, int dull) {
            int hour = mill.hourBy(wind, setting, heat, dull);
            if (Mill.isAway(hour)) {
                return 0;
            }
            long behind = 0;
            for (int next = 0; next < WINDS && n > 1; next++) {
                int chance = winds.chanceOf(wind, next);
                if (chance > 0) {
                    int best = bestFrom(n - 1, next, Mill.heatOf(hour), Mill.dullOf(hour));
                    behind += (long) chance * (best / SETTINGS);
                }
            }
            return Mill.mealOf(hour) * 1000 + (int) (behind / Winds.WHOLE);
        }

        /** MEAN by what is followed. */
        int meanFor(int n, int wind, int heat, int dull) {
            startMean(n, NEVER, false);
            return meanFrom(0, wind, wind, heat, dull);
        }

        /** AWAY by what is followed. */
        int awayFor(int n, int wind, int heat, int dull) {
            startMean(n, NEVER, true);
            return meanFrom(0, wind, wind, heat, dull);
        }

        /** What comes is asked for anew; the stones are dressed in HOUR at, if that is not NEVER. */
        private void startMean(int n, int at, boolean away) {
            hours = n;
            dressAt = at;
            asksAway = away;
            meanStamp++;
        }

        private int meanFrom(int t, int wind, int before, int heat, int dull) {
            // no other KIND looks at the WIND before
            int past = kind == Rules.SIGN ? before : 0;
            int at = ((t * WINDS + past) * WINDS + wind) * PLACES + heat * STEPS + dull;
            if (t >= hours || at < 0 || at >= means.length) {
                return 0;
            }
            if (meanStamps[at] != meanStamp) {
                means[at] = meanOf(t, wind, before, heat, dull);
                meanStamps[at] = meanStamp;
            }
            return means[at];
        }

        private int meanOf(int t, int wind, int before, int heat, int dull) {
            int hour = DRESSED;
            if (t != dressAt) {
                int setting = settingAt(t, hours - t, wind, before, heat, dull);
                hour = mill.hourBy(wind, setting, heat, dull);
            }
            if (Mill.isAway(hour)) {
                return asksAway ? MILLION : 0;
            }
            long behind = 0;
            for (int next = 0; next < WINDS && t + 1 < hours; next++) {
                int chance = winds.chanceOf(wind, next);
                if (chance > 0) {
                    behind += (long) chance * meanFrom(t + 1, next, wind, Mill.heatOf(hour), Mill.dullOf(hour));
                }
            }
            int here = asksAway ? 0 : Mill.mealOf(hour) * 1000;
            return here + (int) (behind / Winds.WHOLE);
        }
    }

    /** THE DAY told by hand. */
    private static final class Day {
        static final int MOST = 10;
        private final int[] winds = new int[MOST];
        private final int[] settings = new int[MOST];
        int size;

        int append(int wind, int setting) {
            if (size >= MOST) {
                return FULL;
            }
            winds[size] = wind;
            settings[size] = setting;
            size++;
            return size;
        }

        /** What 0 JUDGED, 1 FLOUR, 2 WRONG, 3 COST, by a MILL with HEAT, DULL at first. */
        int judge(Mill mill, int heat, int dull, int what) {
            int hot = heat;
            int blunt = dull;
            int judged = NOWHERE;
            int flour = 0;
            int wrong = NOWHERE;
            int cost = NOWHERE;
            int most = 0;
            boolean goes = true;
            for (int i = 0; i < size && goes; i++) {
                int hour = mill.hourBy(winds[i], settings[i], hot, blunt);
                goes = !Mill.isAway(hour);
                if (judged == NOWHERE && (!goes || Mill.isBurnt(hour))) {
                    judged = i;
                }
                flour += Mill.mealOf(hour);
                int more = mostMeal(mill, winds[i], hot, blunt) - Mill.mealOf(hour);
                if (wrong == NOWHERE && more > 0) {
                    wrong = i;
                }
                if (more > most) {
                    most = more;
                    cost = i;
                }
                hot = Mill.heatOf(hour);
                blunt = Mill.dullOf(hour);
            }
            switch (what) {
                case 0: return judged;
                case 1: return flour;
                case 2: return wrong;
                default: return cost;
            }
        }

        private static int mostMeal(Mill mill, int wind, int heat, int dull) {
            int most = 0;
            for (int s = 0; s < SETTINGS; s++) {
                most = Math.max(most, Mill.mealOf(mill.hourBy(wind, s, heat, dull)));
            }
            return most;
        }

        void copyFrom(Day other) {
            System.arraycopy(other.winds, 0, winds, 0, MOST);
            System.arraycopy(other.settings, 0, settings, 0, MOST);
            size = other.size;
        }
    }

    /** ORDERS that are due. */
    private static final class Orders {
        static final int MOST = 6;
        private final int[] hours = new int[MOST];
        private final int[] dues = new int[MOST];
        private final int[] prices = new int[MOST];
        /** Their numbers as they are ground: those that are due first come first, of like ones the least. */
        private final int[] turns = new int[MOST];
        int size;

        int append(int length, int due, int price) {
            if (size >= MOST) {
                return FULL;
            }
            hours[size] = length;
            dues[size] = due;
            prices[size] = price;
            int place = size;
            for (int i = size; i > 0 && dues[turns[i - 1]] > due; i--) {
                turns[i] = turns[i - 1];
                place = i - 1;
            }
            turns[place] = size;
            size++;
            return size - 1;
        }

        /** Those of a set, as bits, that are not ready when they are due. */
        int lateOf(int set) {
            int late = 0;
            int clock = 0;
            for (int i = 0; i < size; i++) {
                int order = turns[i];
                if ((set >> order & 1) == 1) {
                    clock += hours[order];
                    if (clock > dues[order]) {
                        late |= 1 << order;
                    }
                }
            }
            return late;
        }

        int dearest() {
            int most = 0;
            int which = 0;
            for (int set = 0; set < 1 << size; set++) {
                int price = priceOf(set);
                if (price > most && lateOf(set) == 0) {
                    most = price;
                    which = set;
                }
            }
            return which;
        }

        private int priceOf(int set) {
            int price = 0;
            for (int i = 0; i < size; i++) {
                if ((set >> i & 1) == 1) {
                    price += prices[i];
                }
            }
            return price;
        }

        void copyFrom(Orders other) {
            System.arraycopy(other.hours, 0, hours, 0, MOST);
            System.arraycopy(other.dues, 0, dues, 0, MOST);
            System.arraycopy(other.prices, 0, prices, 0, MOST);
            System.arraycopy(other.turns, 0, turns, 0, MOST);
            size = other.size;
        }
    }

    /** ACTS of a RULE, and THE TRACE of the latest one. */
    private static final class Acts {
        static final int ACTS = 3;
        private static final int SETS = 0, TURNS = 1, TELLS = 2;
        private static final int KEPT = 20, DEEPEST = 40;
        /** The numbers of the bodies by KIND and ACT, 0 where it has none. */
        private static final int[] BODIES = {
            1, 2, 3,
            11, 0, 0,
            0, 0, 21,
            0, 31, 0,
            0, 0, 41,
            51, 0, 0,
            0, 61, 0
        };
        final int[] numbers = new int[KEPT];
        int ran;
        private int rule, kind, v;

        void clear() {
            ran = 0;
        }

        int kept() {
            return Math.min(ran, KEPT);
        }

        int begin(Rules rules, int number, int act, int x) {
            rule = number;
            kind = rules.kinds[number];
            v = rules.values[number];
            return perform(act, kind, x, 0);
        }

        /** The body of an ACT of a KIND, or of the next one above that has one. */
        private int perform(int act, int from, int x, int depth) {
            int home = from;
            for (int i = 0; i < Rules.KINDS && bodyOf(home, act) == 0; i++) {
                home = Rules.above(home);
            }
            if (bodyOf(home, act) == 0 || depth > DEEPEST) {
                return 0;
            }
            return doBody(bodyOf(home, act), Rules.above(home), x, depth + 1);
        }

        private static int bodyOf(int kind, int act) {
            int at = kind * ACTS + act;
            return at >= 0 && at < BODIES.length ? BODIES[at] : 0;
        }

        private int doBody(int number, int above, int x, int depth) {
            if (ran < KEPT) {
                numbers[ran] = number;
            }
            ran++;
            switch (number) {
                case 1: return x + rule;
                case 2: return perform(SETS, kind, x, depth) - v;
                case 3: return perform(TURNS, kind, x, depth) * 2;
                case 11: return perform(SETS, above, x * 3, depth);
                case 21: return perform(TELLS, above, x, depth) ^ 7;
                case 31: return -perform(TURNS, above, x, depth);
                case 41: return perform(TELLS, above, x - 1, depth) + perform(SETS, kind, 2, depth);
                case 51: return perform(SETS, above, x, depth) ^ rule;
                default: return perform(TURNS, above, x, depth) + v;
            }
        }
    }
}
