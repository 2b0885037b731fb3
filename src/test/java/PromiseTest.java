/** Each promise of the document by hand: ordinary calls, the edges that it names, and refusals in their order. */
public final class PromiseTest {
    private static final long NO = Long.MIN_VALUE;
    private static int wrong;
    private static String part = "";

    /** FAST 5 by WIND 2 or 3, with CLOTH 2 or 3 it RUNS AWAY by 4 or 5; STONES 1 grind and wear. */
    private static final String PLAIN = "fast 5 w>1;fast 5 w>3&c>1;meal 10 f>4&s=1;meal 3 f=0;"
        + "heat 3 f>4;wear 1 s=1;cool 1;edge 9;burn 7";
    /** CLOTH 3 grinds most, but then it is hot for good. */
    private static final String HOT = "meal 9 c=3;heat 9 c=3;meal 4 c=0;burn 5";
    /** Three HOURS with CLOTH 3 grind nothing, behind them CLOTH 1 grinds a lot. */
    private static final String SLOW = "heat 1 c=3;meal 30 h=3&c=1;meal 2 c=0";
    /** CLOTH 2 grinds most, but RUNS AWAY by WIND 4 and 5. */
    private static final String RISKY = "fast 1 c>0;fast 9 w>3&c>1;meal 5 c=1;meal 9 c=2;meal 2 c=0;edge 8";
    private static final String WINDY = "meal 5 w=1&c=2;meal 6 w=2&c=3;meal 9 w=1&c=1&s=1";
    private static final String ALWAYS_AWAY = "fast 9 w<6;edge 1;meal 1 c=1";

    private static void due(String call, long got, long want) {
        if (got != want) {
            wrong++;
            System.out.println(part + ": " + call + " answered " + got + ", due is " + want);
        }
    }

    private static void feedAll(Counted x, String text) {
        for (int i = 0; i < text.length(); i += 8) {
            int n = Math.min(8, text.length() - i);
            long w = 0;
            for (int k = 0; k < n; k++) {
                w = w << 8 | text.charAt(i + k);
            }
            x.feed(w, n);
        }
    }

    private static int read(Counted x, String text) {
        feedAll(x, text);
        return x.mill();
    }

    private static Counted with(String... texts) {
        Counted x = new Counted();
        for (String text : texts) {
            due("mill() of " + text, read(x, text), x.count(0) - 1);
        }
        return x;
    }

    private static Counted led(String... texts) {
        Counted x = with(texts);
        due("lead(0)", x.lead(0), 1);
        return x;
    }

    private static void aNewObject() {
        part = "1 a new object";
        Counted x = new Counted();
        for (int i = 0; i < 6; i++) {
            due("count(" + i + ")", x.count(i), 0);
            due("led(" + i + ")", x.led(i), -3);
            for (int k = 0; k < 6; k++) {
                due("chance(" + i + ", " + k + ")", x.chance(i, k), i == k ? 1000 : 0);
            }
        }
        due("hour of no mill", x.hour(0, 0, 0, 0, 0, 0), -1);
        due("undo()", x.undo(), -3);
        due("take()", x.take(), 0);
        due("late(0)", x.late(0), 0);
        due("late(1)", x.late(1), -2);
        due("trace(0)", x.trace(0), -1);
        due("NONE", MillWind.NONE, -1);
        due("BAD", MillWind.BAD, -2);
        due("STATE", MillWind.STATE, -3);
        due("FULL", MillWind.FULL, -4);
        due("NO", MillWind.NO, NO);
    }

    private static void feed() {
        part = "2 feed";
        Counted x = new Counted();
        due("0 bytes", x.feed(0, 0), -2);
        due("9 bytes", x.feed(0, 9), -2);
        due("-1 bytes", x.feed(0, -1), -2);
        due("8 bytes", x.feed(0x7777777777777777L, 8), 8);
        due("mill()", x.mill(), -11);
        due("3 lowest of cool", x.feed(0x7878636f6fL, 3), 3);
        due("5 more", x.feed(0xff6c2034L << 8 | '2', 4), 7);
        due("count(4)", x.count(4), 7);
        due("mill()", x.mill(), 0);
        due("count(4) behind it", x.count(4), 0);
        for (int i = 1; i <= 14; i++) {
            due("filling", x.feed(0, 8), 8 * i);
        }
        due("to 117", x.feed(-1, 5), 117);
        due("4 are too many", x.feed(-1, 4), -4);
        due("BAD ahead of FULL", x.feed(-1, 9), -2);
        due("3 fit", x.feed(-1, 3), 120);
        due("1 is too many", x.feed(-1, 1), -4);
        due("count(4)", x.count(4), 120);
    }

    private static void fault(Counted x, String text, int at) {
        due("FAULT of " + text, read(x, text), -10 - at);
        due("THE TAPE behind " + text, x.count(4), 0);
        due("MILLS behind " + text, x.count(0), 0);
    }

    private static void mills(String text) {
        Counted x = new Counted();
        due("MILL " + text, read(x, text), 0);
        due("THE TAPE behind " + text, x.count(4), 0);
    }

    private static void mill() {
        part = "3 mill";
        Counted x = new Counted();
        fault(x, "", 0);
        fault(x, "x", 0);
        fault(x, "F", 0);
        fault(x, " fast 1 w=1", 0);
        fault(x, "f", 1);
        fault(x, "fest 1 w=1", 1);
        fault(x, "fasts 1 w=1", 4);
        fault(x, "fast  1 w=1", 5);
        fault(x, "fast -1 w=1", 5);
        fault(x, "fast 01 w=1", 6);
        fault(x, "fast 123 w=1", 7);
        fault(x, "fast 12", 7);
        fault(x, "fast 12w=1", 7);
        fault(x, "fast 12 ", 8);
        fault(x, "fast 1 w", 8);
        fault(x, "fast 1 w=", 9);
        fault(x, "fast 1 w==1", 9);
        fault(x, "fast 1 w=1 ", 10);
        fault(x, "fast 1 w=1;", 11);
        fault(x, "fast 1 w=1;;", 11);
        fault(x, "fast 1 w=00", 10);
        fault(x, "fast 1 w=100", 11);
        fault(x, "fast 1 w=1&", 11);
        fault(x, "fast 1 w=1&&", 11);
        fault(x, "fast 1 w=1|", 11);
        fault(x, "fast 1 w=1)", 10);
        fault(x, "fast 1 (w=1", 11);
        fault(x, "fast 1 (w=1;", 11);
        fault(x, "fast 1 ()", 8);
        fault(x, "fast 1 !", 8);
        fault(x, "fast 1 x=1", 7);
        fault(x, "fast 1 t=1", 7);
        fault(x, "fast 1 w!1", 8);
        fault(x, "cool 1 w=1", 6);
        fault(x, "edge 1 ", 6);
        fault(x, "burn", 4);
        fault(x, "burn ", 5);
        fault(x, "fast 1 !!!!!!w=1", 12);
        fault(x, "fast 1 ((((((w=1))))))", 12);
        fault(x, "fast 1 !!!!!(w=1)", 12);
        fault(x, "fast 1 !(!(!(!w=1)))", 12);
        fault(x, "fast 1 (((((w=1)))))|(((((w=1)))))&((((((w=1", 40);
        fault(x, "cool 1;cool 1;cool 1;cool 1;cool 1;cool 1;cool 1;cool 1;cool 1;cool 1;", 69);
        fault(x, "cool 1;cool 1;cool 1;cool 1;cool 1;cool 1;cool 1;cool 1;cool 1;cool 1;x", 69);
        due("none came", x.count(0), 0);
        for (int i = 0; i < 20; i++) {
            fault(x, "meal 1 w=1|w=1|w=1|w=1|w=1|w=1|w=1;", 35);
        }
        due("behind many FAULTS", read(x, "meal 1 w=2&c=1|w=3"), 0);
        due("its MEAL", x.hour(0, 2, 2, 0, 0, 1) * 2 + x.hour(0, 2, 4, 0, 0, 1), 2);
        mills("cool 0");
        mills("fast 0 w<0");
        mills("fast 99 f>99");
        mills("wear 10 d=9");
        mills("fast 1 !!!!!w=1");
        mills("fast 1 (((((w=1)))))");
        mills("fast 1 !(!(!w=1))&!!!!!w=1|(!!!!w=1)&!!!!!s>0");
        mills("fast 1 !w=1&!w=1&!w=1&!w=1&!w=1&!w=1&!w=1");
        mills("cool 1;cool 1;cool 1;cool 1;cool 1;cool 1;cool 1;cool 1;cool 1;cool 1");
        Counted y = with("cool 1", "cool 2", "cool 3", "cool 4");
        due("bytes beyond a sign's 127", y.feed(0xe9, 1), 1);
        due("their FAULT", y.mill(), -10);
        due("the fifth", read(y, "cool 5"), 4);
        feedAll(y, "cool 6");
        due("FULL", y.mill(), -4);
        due("THE TAPE stays", y.count(4), 6);
        y.feed('x', 1);
        due("FULL ahead of a FAULT", y.mill(), -4);
        due("THE TAPE stays", y.count(4), 7);
    }

    private static void hours(Counted x, int wind, int setting, int heat, int dull, int... want) {
        for (int what = 0; what < 6; what++) {
            due("hour(0, " + wind + ", " + setting + ", " + heat + ", " + dull + ", " + what + ")",
                x.hour(0, wind, setting, heat, dull, what), want[what]);
        }
    }

    /** Whether an E holds: by MEAL of a MILL that has it alone. */
    private static void holds(String e, int wind, int setting, int heat, int dull, int want) {
        Counted x = with("meal 1 " + e);
        due(e, x.hour(0, wind, setting, heat, dull, 1), want);
    }

    private static void hour() {
        part = "4 hour";
        Counted x = with(PLAIN);
        hours(x, 0, 0, 0, 0, 0, 3, 0, 0, 0, 0);
        hours(x, 2, 1, 0, 0, 5, 10, 2, 1, 0, 0);
        hours(x, 2, 0, 5, 9, 5, 0, 7, 9, 0, 0);
        hours(x, 4, 3, 6, 8, 5, 10, 8, 9, 0, 0);
        hours(x, 4, 4, 3, 2, 10, -1, 3, 2, 0, 1);
        hours(x, 5, 7, 9, 9, 10, -1, 9, 9, 0, 1);
        hours(x, 2, 1, 7, 9, 5, 0, 9, 9, 1, 0);
        hours(x, 1, 7, 9, 0, 0, 0, 8, 1, 1, 0);
        due("NONE mill", x.hour(1, 0, 8, 10, 10, 0), -1);
        due("NONE mill", x.hour(-1, 0, 0, 0, 0, 0), -1);
        due("NONE wind", x.hour(0, 6, 8, 0, 0, 0), -1);
        due("NONE wind", x.hour(0, -1, 0, 0, 0, 0), -1);
        due("NONE what, ahead of BAD", x.hour(0, 0, 8, 0, 0, 6), -1);
        due("NONE what", x.hour(0, 0, 0, 0, 0, -1), -1);
        due("BAD setting", x.hour(0, 0, 8, 0, 0, 0), -2);
        due("BAD setting", x.hour(0, 0, -1, 0, 0, 0), -2);
        due("BAD heat", x.hour(0, 0, 0, 10, 0, 0), -2);
        due("BAD heat", x.hour(0, 0, 0, -1, 0, 0), -2);
        due("BAD dull", x.hour(0, 0, 0, 0, 10, 0), -2);
        due("BAD dull", x.hour(0, 0, 0, 0, -1, 0), -2);
        hours(with("fast 60 w=1;fast 60 w<9;meal 99 f=99;meal 99 f>98"), 1, 0, 0, 0, 99, 198, 0, 0, 0, 0);
        hours(with("edge 9;edge 12;fast 12 w<9;burn 0;burn 5;cool 9;cool 1;heat 3 w<9"), 0, 0, 4, 0, 12, 0, 6, 0, 0, 0);
        hours(with("fast 12 w<9;edge 11;edge 12;edge 11"), 0, 0, 4, 0, 12, -1, 4, 0, 0, 1);
        hours(with("fast 99 w<9"), 0, 0, 9, 9, 99, 0, 9, 9, 0, 0);
        hours(with("burn 0;meal 5 w<9"), 0, 0, 0, 0, 0, 0, 0, 0, 1, 0);
        hours(with("fast 1 f=0;fast 2 f>0;meal 1 f=1"), 0, 0, 0, 0, 1, 1, 0, 0, 0, 0);
        hours(with("heat 2 h=3&d=4;wear 3 h=3&d=4;heat 5 h=5;wear 5 d=7"), 0, 0, 3, 4, 0, 0, 5, 7, 0, 0);
        StringBuilder ten = new StringBuilder("meal 99 w<9");
        for (int i = 0; i < 9; i++) {
            ten.append(";meal 99 w<9");
        }
        due("ten meals", with(ten.toString()).hour(0, 0, 0, 0, 0, 1), 990);
        holds("w=2", 2, 0, 0, 0, 1);
        holds("w<2", 2, 0, 0, 0, 0);
        holds("w>2", 2, 0, 0, 0, 0);
        holds("c=3", 0, 6, 0, 0, 1);
        holds("s=1", 0, 6, 0, 0, 0);
        holds("s=1", 0, 5, 0, 0, 1);
        holds("h>8", 0, 5, 9, 0, 1);
        holds("d>8", 0, 5, 9, 0, 0);
        holds("d>8", 0, 5, 0, 9, 1);
        holds("w=0|w=1&w=2", 0, 0, 0, 0, 1);
        holds("(w=0|w=1)&w=2", 0, 0, 0, 0, 0);
        holds("w=1&w=2|w=0", 0, 0, 0, 0, 1);
        holds("!w=1&w=2", 2, 0, 0, 0, 1);
        holds("!w=1&w=2", 1, 0, 0, 0, 0);
        holds("!(w=1&w=2)", 1, 0, 0, 0, 1);
        holds("!!w=1", 1, 0, 0, 0, 1);
        holds("!!!w=1", 1, 0, 0, 0, 0);
        holds("!(!w=1|!c=2)", 1, 4, 0, 0, 1);
        holds("w=9|(w=9|(w=9|(w=9|(w=9|(w=9|w=1)))))", 1, 0, 0, 0, 1);
        holds("w=1&(w=9|w=1&(w=9|w=1&(w=9|w=1&(w=9|w=1&(w=9|w=1&w<9)))))", 1, 0, 0, 0, 1);
    }

    private static void windAndChance() {
        part = "5 wind, 6 chance";
        Counted x = new Counted();
        due("wind(1, ..)", x.wind(1, 10, 20, 30, 40, 50), 1);
        int[] want = {10, 20, 30, 40, 50, 850};
        for (int i = 0; i < 6; i++) {
            due("chance(1, " + i + ")", x.chance(1, i), want[i]);
            due("chance(2, " + i + ")", x.chance(2, i), i == 2 ? 1000 : 0);
        }
        due("all to the last", x.wind(5, 0, 0, 0, 0, 0), 1);
        due("chance(5, 5)", x.chance(5, 5), 1000);
        due("all to the first", x.wind(0, 1000, 0, 0, 0, 0), 1);
        due("chance(0, 5)", x.chance(0, 5), 0);
        due("1001 together", x.wind(1, 200, 200, 200, 200, 201), -2);
        due("NONE ahead of BAD", x.wind(6, 1001, 0, 0, 0, 0), -1);
        due("NONE", x.wind(-1, 0, 0, 0, 0, 0), -1);
        due("BAD a", x.wind(1, -1, 0, 0, 0, 0), -2);
        due("BAD b", x.wind(1, 0, 1001, 0, 0, 0), -2);
        due("BAD c", x.wind(1, 0, 500, -1, 0, 0), -2);
        due("BAD d", x.wind(1, 0, 0, 0, Integer.MAX_VALUE, 0), -2);
        due("BAD e", x.wind(1, 0, 0, 0, 0, Integer.MIN_VALUE), -2);
        due("as it was", x.chance(1, 5), 850);
        due("NONE", x.chance(6, 0), -1);
        due("NONE", x.chance(-1, 0), -1);
        due("NONE", x.chance(0, 6), -1);
        due("NONE", x.chance(0, -1), -1);
    }

    private static void leading() {
        part = "7 lead, 8 led, 9 go";
        Counted x = with(PLAIN, HOT);
        due("no MILL", x.lead(2), -1);
        due("no MILL", x.lead(-1), -1);
        due("led(0), none", x.led(0), -3);
        due("NONE ahead of STATE", x.led(6), -1);
        due("go, none LED", x.go(0, 0), -13);
        due("lead(1)", x.lead(1), 1);
        due("which", x.led(0), 1);
        due("lead(0)", x.lead(0), 1);
        due("which", x.led(0), 0);
        due("no MILL", x.lead(2), -1);
        due("still", x.led(0), 0);
        due("NONE", x.go(6, 8), -11);
        due("NONE", x.go(-1, 0), -11);
        due("BAD", x.go(0, 8), -12);
        due("BAD", x.go(0, -1), -12);
        due("NOW", x.led(1), 0);
        due("go", x.go(2, 1), 10);
        due("go", x.go(2, 1), 10);
        due("go", x.go(0, 0), 3);
        leads(x, 0, 3, 3, 2, 23, 0);
        due("go", x.go(2, 1), 10);
        due("go", x.go(2, 0), 0);
        due("burnt", x.go(2, 1), 0);
        leads(x, 0, 6, 9, 4, 33, 0);
        due("away", x.go(4, 4), -1);
        leads(x, 0, 7, 9, 4, 33, 1);
        due("away before", x.go(0, 0), -1);
        leads(x, 0, 8, 9, 4, 33, 1);
        due("led(6)", x.led(6), -1);
        due("led(-1)", x.led(-1), -1);
        due("lead anew", x.lead(0), 1);
        leads(x, 0, 0, 0, 0, 0, 0);
        x.rule(1, 0);
        for (int i = 0; i < 33; i++) {
            due("30 HOURS", x.run(0, 30, 0, 0), 90);
        }
        due("8 HOURS", x.run(0, 8, 0, 0), 24);
        due("the last HOUR", x.go(0, 0), 3);
        due("NOW", x.led(1), 999);
        due("STATE at 999", x.go(0, 0), -13);
        due("BAD ahead of STATE", x.go(0, 9), -12);
        due("flour", x.led(4), 2997);
    }

    private static void leads(Counted x, int... want) {
        for (int what = 0; what < 6; what++) {
            due("led(" + what + ")", x.led(what), want[what]);
        }
    }

    private static void rulesAndRows() {
        part = "10 rule, 11 row";
        Counted x = new Counted();
        due("NONE", x.rule(7, 8), -1);
        due("NONE", x.rule(-1, 0), -1);
        due("BAD", x.rule(0, 8), -2);
        due("BAD", x.rule(0, -1), -2);
        for (int i = 0; i < 10; i++) {
            due("rule", x.rule(i % 7, 7 - i % 8), i);
        }
        due("FULL", x.rule(0, 0), -4);
        due("BAD ahead of FULL", x.rule(0, 8), -2);
        due("NONE ahead of FULL", x.rule(7, 0), -1);
        due("count(1)", x.count(1), 10);
        due("NONE", x.row(10, 8), -1);
        due("NONE", x.row(-1, 0), -1);
        due("BAD ahead of STATE", x.row(0, 8), -2);
        due("BAD", x.row(6, -1), -2);
        due("STATE", x.row(5, 0), -3);
        due("STATE", x.row(1, 0), -3);
        for (int i = 1; i <= 10; i++) {
            due("row", x.row(6, i % 8), i);
        }
        due("FULL", x.row(6, 0), -4);
        due("BAD ahead of FULL", x.row(6, 8), -2);
        Counted y = led(PLAIN);
        y.rule(6, 5);
        y.rule(6, 4);
        due("the first row", y.row(0, 3), 1);
        due("the other row", y.row(1, 2), 1);
        due("sets of the first", y.sets(0, 9, 1, 0, 0), 3);
        due("sets of the other", y.sets(1, 9, 1, 0, 0), 2);
    }

    private static void setsOfKinds() {
        part = "12 sets";
        Counted x = led(WINDY);
        for (int kind = 0; kind < 7; kind++) {
            x.rule(kind, 3);
        }
        x.rule(2, 4);
        due("RULE", x.sets(0, 0, 1, 1, 1), 0);
        due("FIXED", x.sets(1, 0, 1, 1, 1), 3);
        due("SIGN, STONES 1, before 1", x.sets(2, 0, 1, 2, 1), 3);
        due("SIGN, STONES 1, before 2", x.sets(2, 0, 1, 1, 2), 7);
        due("SIGN, STONES 1, before 0: all alike", x.sets(2, 0, 1, 1, 0), 1);
        due("SIGN, STONES 0, before 1", x.sets(7, 0, 1, 2, 1), 4);
        due("SIGN, STONES 0, before 2", x.sets(7, 0, 1, 1, 2), 6);
        due("WATCH by WIND 1", x.sets(3, 0, 1, 1, 2), 3);
        due("WATCH by WIND 2", x.sets(3, 0, 1, 2, 1), 6);
        due("TOLD without ROW", x.sets(6, 4, 1, 2, 1), 3);
        x.row(6, 1);
        x.row(6, 5);
        x.row(6, 2);
        int[] told = {1, 5, 2, 1, 5, 2, 1, 5, 2, 1};
        for (int t = 0; t < 10; t++) {
            due("TOLD", x.sets(6, t, 6, 2, 1), told[t]);
        }
        Counted hot = led(HOT);
        hot.rule(4, 0);
        hot.rule(3, 0);
        hot.rule(2, 1);
        due("BEST, one left", hot.sets(0, 0, 1, 0, 0), 6);
        due("BEST, two left", hot.sets(0, 0, 2, 0, 0), 0);
        due("WATCH", hot.sets(1, 0, 2, 0, 0), 6);
        hot.go(0, 6);
        due("WATCH, all BURNT", hot.sets(1, 0, 2, 0, 0), 0);
        due("SIGN, all BURNT", hot.sets(2, 0, 2, 0, 0), 0);
        Counted slow = led(SLOW);
        slow.rule(4, 0);
        due("BEST, 3 ahead", slow.sets(0, 0, 3, 0, 0), 0);
        due("BEST, 3 ahead at most", slow.sets(0, 0, 6, 0, 0), 0);
        due("best sees it", slow.best(4, 0, 0), 6);
        Counted risky = led(RISKY, ALWAYS_AWAY);
        risky.rule(5, 3);
        risky.rule(5, 4);
        risky.rule(5, 7);
        risky.rule(3, 0);
        due("SAFE to 3", risky.sets(0, 0, 1, 3, 3), 4);
        due("SAFE to 3 by WIND 4", risky.sets(0, 0, 1, 4, 3), 2);
        due("SAFE to 4", risky.sets(1, 0, 1, 3, 3), 2);
        due("SAFE to 7", risky.sets(2, 0, 2, 3, 3), 2);
        due("WATCH by 4", risky.sets(3, 0, 2, 4, 3), 2);
        risky.go(4, 4);
        due("away", risky.led(5), 1);
        due("asked as if it had not RUN AWAY", risky.sets(0, 0, 1, 3, 3), 4);
        risky.lead(1);
        due("SAFE, none is", risky.sets(0, 0, 1, 3, 3), 0);
        due("WATCH, all RUN AWAY", risky.sets(3, 0, 1, 3, 3), 0);
        due("NONE", x.sets(8, 10, 1, 0, 0), -1);
        due("NONE", x.sets(-1, 0, 1, 0, 0), -1);
        due("NONE", x.sets(0, 10, 1, 6, 0), -1);
        due("NONE", x.sets(0, 10, 1, 0, -1), -1);
        due("BAD", x.sets(0, 10, 1, 0, 0), -2);
        due("BAD", x.sets(0, -1, 1, 0, 0), -2);
        due("BAD", x.sets(0, 0, 0, 0, 0), -2);
        due("BAD", x.sets(0, 0, 7, 0, 0), -2);
        Counted none = new Counted();
        none.rule(0, 0);
        due("BAD ahead of STATE", none.sets(0, 0, 7, 0, 0), -2);
        due("STATE", none.sets(0, 0, 6, 0, 0), -3);
    }

    private static void mean() {
        part = "13 mean";
        Counted x = led(PLAIN);
        x.rule(1, 1);
        x.rule(1, 5);
        x.wind(2, 500, 0, 0, 0, 500);
        due("1 HOUR", x.mean(0, 1, 2, 0), 10000);
        due("2 HOURS", x.mean(0, 2, 2, 0), 16500);
        due("2 HOURS, RUNNING AWAY", x.mean(1, 2, 2, 0), 11500);
        due("AWAY", x.mean(1, 2, 2, 1), 500000);
        due("AWAY in 1", x.mean(1, 1, 2, 1), 0);
        due("AWAY at once", x.mean(1, 6, 4, 1), 1000000);
        due("nothing then", x.mean(1, 6, 4, 0), 0);
        x.wind(2, 1, 0, 999, 0, 0);
        due("cut", x.mean(0, 3, 2, 0), 29979);
        due("BURNT from the fifth on", x.mean(0, 6, 3, 0), 40000);
        x.go(3, 0);
        due("HEAT as it is LED", x.mean(0, 6, 3, 0), 30000);
        Counted y = led(WINDY);
        y.rule(2, 0);
        y.rule(6, 4);
        y.row(1, 6);
        y.row(1, 4);
        y.wind(1, 0, 0, 1000, 0, 0);
        y.wind(2, 0, 1000, 0, 0, 0);
        due("SIGN, the first as the same", y.mean(0, 1, 1, 0), 5000);
        due("SIGN, then a HOUR late", y.mean(0, 4, 1, 0), 5000);
        due("TOLD from t 0 on, as NOW", y.mean(1, 4, 2, 0), 22000);
        y.go(0, 0);
        due("TOLD from t 0 on, later", y.mean(1, 4, 2, 0), 22000);
        // by both ways to WIND 0 the SIGN is another one: 2 -> 1 -> 0 and 2 -> 2 -> 0
        Counted sign = led("meal 7 w=0&c=2;meal 3 w=2&c=1;meal 1 w=1&c=2;meal 2 w=1&c=1");
        sign.rule(2, 0);
        sign.wind(2, 0, 500, 500, 0, 0);
        sign.wind(1, 1000, 0, 0, 0, 0);
        sign.wind(0, 0, 0, 1000, 0, 0);
        due("SIGN of 2 HOURS", sign.mean(0, 2, 2, 0), 3000 + 1000 + 1500);
        sign.wind(2, 500, 500, 0, 0, 0);
        // 2: 3; then 0 by the sign of 2 (CLOTH 1): 0, or 1 by that of 2: 2; then 2 by that of 0 (CLOTH 2): 0,
        // or 0 by that of 1 (CLOTH 1): 0
        due("SIGN of 3 HOURS", sign.mean(0, 3, 2, 0), 4000);
        sign.wind(1, 500, 0, 500, 0, 0);
        sign.wind(0, 500, 0, 500, 0, 0);
        // the third HOUR: 0 by the sign of 0: 7, 2 by that of 0: 0; 0 by that of 1: 0, 2 by that of 1: 3
        due("SIGN of 3 HOURS, by the WIND before", sign.mean(0, 3, 2, 0), 4000 + (3500 + 1500) / 2);
        Counted apart = led("heat 1 w=0;wear 1 w=1;meal 5 h=1&w=3");
        apart.rule(1, 0);
        apart.wind(2, 500, 500, 0, 0, 0);
        apart.wind(0, 0, 0, 0, 1000, 0);
        apart.wind(1, 0, 0, 0, 1000, 0);
        due("HEAT is not DULL", apart.mean(0, 3, 2, 0), 2500);
        Counted even = led("meal 5 w=1");
        even.rule(2, 0);
        even.wind(1, 500, 500, 0, 0, 0);
        even.wind(0, 0, 1000, 0, 0, 0);
        due("a later HOUR is not an earlier one", even.mean(0, 3, 1, 0), 5000 + (5000 + 7500) / 2);
        Counted hot = led(HOT);
        hot.rule(4, 0);
        hot.rule(3, 0);
        due("BEST", hot.mean(0, 6, 0, 0), 29000);
        due("WATCH", hot.mean(1, 6, 0, 0), 9000);
        due("NO rule", x.mean(2, 1, 0, 0), NO);
        due("NO rule", x.mean(-1, 1, 0, 0), NO);
        due("NO n", x.mean(0, 0, 0, 0), NO);
        due("NO n", x.mean(0, 7, 0, 0), NO);
        due("NO wind", x.mean(0, 1, 6, 0), NO);
        due("NO wind", x.mean(0, 1, -1, 0), NO);
        due("NO what", x.mean(0, 1, 0, 2), NO);
        due("NO what", x.mean(0, 1, 0, -1), NO);
        Counted none = with(PLAIN);
        none.rule(0, 0);
        due("none LED", none.mean(0, 1, 0, 0), NO);
        x.go(4, 4);
        due("away", x.mean(0, 3, 2, 0), 0);
        due("away", x.mean(0, 3, 2, 1), 0);
        due("NO ahead of away", x.mean(0, 7, 2, 1), NO);
    }

    private static void best() {
        part = "14 best";
        Counted x = led(HOT);
        int[] settings = {6, 0, 0, 0, 0, 0};
        int[] worths = {9000, 13000, 17000, 21000, 25000, 29000};
        int[] looks = {0, 4000, 5000, 5000, 5000, 5000};
        for (int n = 1; n <= 6; n++) {
            due("SETTING for " + n, x.best(n, 3, 0), settings[n - 1]);
            due("MEAN for " + n, x.best(n, 3, 1), worths[n - 1]);
            due("LOOKING for " + n, x.best(n, 3, 2), looks[n - 1]);
        }
        due("NO n", x.best(0, 0, 0), NO);
        due("NO n", x.best(7, 0, 0), NO);
        due("NO wind", x.best(1, 6, 0), NO);
        due("NO wind", x.best(1, -1, 0), NO);
        due("NO what", x.best(1, 0, 3), NO);
        due("NO what", x.best(1, 0, -1), NO);
        due("none LED", with(HOT).best(1, 0, 0), NO);
        Counted y = led(RISKY);
        y.wind(3, 0, 0, 0, 500, 500);
        y.wind(4, 333, 333, 334, 0, 0);
        due("wind 4", y.best(1, 4, 1), 5000);
        due("by CHANCES", y.best(2, 3, 1), 16000);
        due("cut", y.best(3, 3, 1), 9000 + (500 * 16000 + 500 * 14000) / 1000);
        y.wind(3, 0, 0, 0, 1000, 0);
        due("other CHANCES", y.best(3, 3, 1), 27000);
        due("RUNNING AWAY, all", led(ALWAYS_AWAY).best(2, 0, 0), 0);
        due("RUNNING AWAY, all", led(ALWAYS_AWAY).best(2, 0, 1), 0);
        y.go(4, 4);
        for (int what = 0; what < 3; what++) {
            due("away", y.best(2, 3, what), 0);
        }
        Counted z = led(HOT, SLOW);
        due("of the one", z.best(1, 0, 0), 6);
        z.lead(1);
        due("of the other", z.best(1, 0, 0), 0);
        due("of the other", z.best(4, 0, 0), 6);
    }

    private static void dress() {
        part = "15 dress";
        Counted x = led(HOT);
        due("1 HOUR", x.dress(1, 0), -5);
        due("2 HOURS", x.dress(2, 0), -5);
        due("3 HOURS", x.dress(3, 0), 1);
        due("4 HOURS", x.dress(4, 0), 1);
        x.go(0, 6);
        due("hot already, 1", x.dress(1, 0), -5);
        due("hot already, 2", x.dress(2, 0), 0);
        due("hot already, 4: two were as good", x.dress(4, 0), 0);
        due("NONE ahead of BAD", x.dress(0, 6), -1);
        due("NONE", x.dress(1, -1), -1);
        due("BAD", x.dress(0, 0), -2);
        due("BAD", x.dress(5, 0), -2);
        Counted dull = led("meal 5 d<2;wear 1 w<9");
        due("DULL, 4: 1 and 2 are as good", dull.dress(4, 0), 1);
        due("DULL, 3", dull.dress(3, 0), -5);
        due("none LED", with(HOT).dress(1, 0), -3);
        due("BAD ahead of STATE", with(HOT).dress(5, 0), -2);
        Counted away = led(ALWAYS_AWAY);
        due("it would RUN AWAY", away.dress(2, 0), -5);
        away.go(0, 0);
        due("it has", away.dress(2, 0), -5);
        due("BAD ahead of that", away.dress(5, 0), -2);
    }

    private static void dayAndJudged() {
        part = "16 day, 17 judged";
        Counted x = with(HOT, PLAIN);
        due("STATE", x.judged(0), -3);
        due("NONE ahead of STATE", x.judged(4), -1);
        x.lead(0);
        for (int what = 0; what < 4; what++) {
            due("an empty DAY", x.judged(what), what == 1 ? 0 : -5);
        }
        due("NONE", x.day(6, 8), -1);
        due("NONE", x.day(-2, 0), -1);
        due("BAD", x.day(0, 8), -2);
        due("BAD", x.day(0, -1), -2);
        due("day", x.day(0, 0), 1);
        due("day", x.day(0, 2), 2);
        due("day", x.day(0, 6), 3);
        due("day", x.day(0, 6), 4);
        due("BURNT", x.judged(0), 3);
        due("FLOUR", x.judged(1), 13);
        due("WRONG", x.judged(2), 0);
        due("COST", x.judged(3), 1);
        due("NONE", x.judged(-1), -1);
        due("emptied", x.day(-1, 99), 0);
        due("count(2)", x.count(2), 0);
        for (int i = 1; i <= 10; i++) {
            due("day", x.day(5, 6), i);
        }
        due("FULL", x.day(0, 0), -4);
        due("BAD ahead of FULL", x.day(0, 8), -2);
        due("NONE ahead of FULL", x.day(6, 0), -1);
        due("BURNT", x.judged(0), 1);
        due("none WRONG", x.judged(2), -5);
        due("no COST", x.judged(3), -5);
        x.lead(1);
        due("by the MILL that is LED: away at once", x.judged(0), 0);
        due("nothing then", x.judged(1), 0);
        due("another SETTING would have ground", x.judged(2), 0);
        due("and cost most", x.judged(3), 0);
        due("emptied", x.day(-1, 0), 0);
        x.day(2, 1);
        x.day(4, 4);
        x.day(0, 0);
        due("away", x.judged(0), 1);
        due("FLOUR till then", x.judged(1), 10);
        due("WRONG", x.judged(2), 1);
        due("COST", x.judged(3), 1);
        due("nothing went", x.led(1), 0);
        for (int i = 0; i < 4; i++) {
            x.go(2, 0);
        }
        due("by HEAT as it is LED", x.judged(0), 0);
        due("BURNT, then away", x.judged(1), 0);
        due("none were better", x.judged(2), -5);
        x.go(4, 4);
        due("STATE, away", x.judged(0), -3);
        due("NONE ahead of that", x.judged(4), -1);
    }

    private static void orders() {
        part = "18 order, 19 take, 20 late";
        Counted x = new Counted();
        due("BAD", x.order(0, 1, 1), -2);
        due("BAD", x.order(21, 1, 1), -2);
        due("BAD", x.order(1, 0, 1), -2);
        due("BAD", x.order(1, 100, 1), -2);
        due("BAD", x.order(1, 1, -1), -2);
        due("BAD", x.order(1, 1, 100), -2);
        due("nothing", x.take(), 0);
        due("order", x.order(20, 99, 0), 0);
        due("a PRICE of 0 is not taken", x.take(), 0);
        due("order", x.order(4, 10, 5), 1);
        due("order", x.order(6, 10, 7), 2);
        due("both are ready at 10", x.take(), 6);
        due("order", x.order(1, 9, 7), 3);
        due("10 and 01 or 11 of three", x.take(), 12);
        due("late: 3 first, then 1, 2", x.late(14), 4);
        due("late of all", x.late(15), 4);
        due("late of one", x.late(4), 0);
        due("BAD", x.late(16), -2);
        due("BAD", x.late(-1), -2);
        due("order", x.order(6, 10, 7), 4);
        due("of like ones the least bits", x.take(), 12);
        due("of like ones the least first", x.late(20), 16);
        due("order", x.order(1, 1, 99), 5);
        due("FULL", x.order(1, 1, 1), -4);
        due("BAD ahead of FULL", x.order(1, 1, 100), -2);
        due("the sixth", x.take(), 44);
        due("all", x.late(63), 20);
        due("BAD", x.late(64), -2);
        due("count(3)", x.count(3), 6);
        Counted y = new Counted();
        y.order(20, 19, 99);
        due("never ready", y.take(), 0);
        due("late", y.late(1), 1);
    }

    private static void ridge() {
        part = "21 ridge";
        // each takes the WIND's worth by more CLOTH, but leaves less of it
        Counted x = with("meal 5 c=1;meal 4 c=0", "meal 9 w=3;meal 2 w=2&c=2", "meal 3 w=0", ALWAYS_AWAY,
            "meal 5 c=2;burn 0");
        due("REST", x.ridge(0, 1, 2, 3, 0), 120);
        due("LOST: 5 + 2 + 3, less 4 + 9 + 3", x.ridge(0, 1, 2, 3, 1), -6);
        due("REST", x.ridge(0, 1, 2, 4, 0), 100);
        due("LOST: 5 + 9 + 0, less 5 + 9 + 3", x.ridge(0, 1, 2, 4, 1), -3);
        due("RUNNING AWAY", x.ridge(3, 3, 3, 0, 0), 0);
        due("RUNNING AWAY counts -1", x.ridge(3, 3, 3, 0, 1), 0);
        due("BURNT", x.ridge(4, 4, 0, 5, 0), 1);
        due("BURNT", x.ridge(4, 4, 0, 5, 1), 0);
        due("NONE a", x.ridge(5, 0, 0, 0, 0), -1);
        due("NONE b", x.ridge(0, -1, 0, 0, 0), -1);
        due("NONE c", x.ridge(0, 0, 5, 0, 0), -1);
        due("NONE wind", x.ridge(0, 0, 0, 6, 0), -1);
        due("NONE wind", x.ridge(0, 0, 0, -1, 0), -1);
        due("NONE what", x.ridge(0, 0, 0, 0, 2), -1);
        due("NONE what", x.ridge(0, 0, 0, 0, -1), -1);
        Counted y = with("meal 1 w=5&c=3;meal 2 w=2&c=3;meal 4 w=0&c=1;meal 7 w=0&s=1", "edge 4;fast 5 c=0;fast 5 w=4&c=1");
        due("STONES 0, WIND 0 at least", y.ridge(0, 0, 0, 5, 0), 331);
        due("all together", y.ridge(0, 0, 0, 5, 1), 0);
        due("less RUNS AWAY", y.ridge(1, 1, 1, 5, 0), 121);
        due("less RUNS AWAY", y.ridge(1, 1, 1, 5, 1), 0);
    }

    private static void run() {
        part = "22 run";
        Counted x = led(PLAIN);
        x.rule(1, 1);
        x.rule(6, 0);
        x.row(1, 1);
        x.row(1, 0);
        x.wind(2, 500, 0, 0, 500, 0);
        x.wind(3, 500, 0, 500, 0, 0);
        x.wind(0, 0, 0, 0, 1000, 0);
        // numbers behind the HOURS, seed 7: (217 + 17 NOW) * 7 % 1000 = 638, 757, 876, 995, 114
        due("WINDS 2 3 2 3 2", x.run(0, 5, 7, 2), 40);
        leads(x, 0, 5, 9, 5, 40, 0);
        x.lead(0);
        // seed 40: (1240 + 17 NOW) * 7 % 1000 = 799, 918, 37, 156: WINDS 2 3 2 0 3
        due("WINDS 2 3 2 0 3", x.run(1, 5, 40, 2), 10 + 0 + 10 + 3 + 10);
        leads(x, 0, 5, 7, 3, 33, 0);
        x.lead(0);
        x.go(0, 1);
        // NOW is 2, 3 behind the HOURS, seed 40: 918, 37
        due("t from 0 on", x.run(1, 2, 40, 2), 10);
        due("NOW", x.led(1), 3);
        due("flour", x.led(4), 13);
        Counted y = led(WINDY);
        y.rule(2, 0);
        y.wind(1, 0, 0, 1000, 0, 0);
        y.wind(2, 0, 1000, 0, 0, 0);
        due("SIGN, a HOUR late", y.run(0, 4, 0, 2), 6);
        Counted edge = led("meal 1 w=0&c=0;meal 2 w=1&c=0;meal 4 w=5&c=0");
        edge.rule(1, 0);
        // seed 0: 17 NOW * 7 % 1000 = 119, 238
        edge.wind(0, 119, 881, 0, 0, 0);
        due("119 is not more than 119", edge.run(0, 2, 0, 0), 3);
        edge.lead(0);
        edge.wind(0, 120, 880, 0, 0, 0);
        due("120 is", edge.run(0, 2, 0, 0), 2);
        Counted hot = led(HOT);
        hot.rule(4, 0);
        due("BEST by the HOURS of the RUN", hot.run(0, 5, 3, 0), 25);
        due("BURNT", hot.run(0, 5, 3, 0), 0);
        Counted away = led(PLAIN);
        away.rule(1, 5);
        due("away", away.run(0, 30, 3, 4), 0);
        leads(away, 0, 30, 0, 0, 0, 1);
        due("it stands", away.run(0, 30, 3, 0), 0);
        leads(away, 0, 60, 0, 0, 0, 1);
        due("NO rule", x.run(2, 1, 0, 0), NO);
        due("NO rule", x.run(-1, 1, 0, 0), NO);
        due("NO n", x.run(0, 0, 0, 0), NO);
        due("NO n", x.run(0, 31, 0, 0), NO);
        due("NO seed", x.run(0, 1, -1, 0), NO);
        due("NO seed", x.run(0, 1, 1000, 0), NO);
        due("NO wind", x.run(0, 1, 0, 6), NO);
        due("NO wind", x.run(0, 1, 0, -1), NO);
        due("nothing went", x.led(1), 3);
        Counted none = with(PLAIN);
        none.rule(0, 0);
        due("none LED", none.run(0, 1, 0, 0), NO);
        for (int i = 0; i < 33; i++) {
            hot.run(0, 29, 0, 0);
        }
        due("NOW", hot.led(1), 967);
        due("to 997", hot.run(0, 30, 0, 0), 0);
        due("beyond 999", hot.run(0, 3, 0, 0), NO);
        due("NOW", hot.led(1), 997);
        due("to 999", hot.run(0, 2, 0, 0), 0);
        due("NOW", hot.led(1), 999);
        due("beyond 999", hot.run(0, 1, 0, 0), NO);
    }

    private static void acts(Counted x, int rule, int act, int arg, int want, int... trace) {
        String call = "act(" + rule + ", " + act + ", " + arg + ")";
        due(call, x.act(rule, act, arg), want);
        due("count(5) of " + call, x.count(5), trace.length);
        for (int i = 0; i < trace.length; i++) {
            due("trace(" + i + ") of " + call, x.trace(i), trace[i]);
        }
        due("behind the last of " + call, x.trace(trace.length), -1);
        due("ahead of the first of " + call, x.trace(-1), -1);
    }

    private static void actsAndTrace() {
        part = "23 act, 24 trace";
        Counted x = new Counted();
        acts(x, 0, 0, 5, 0);
        for (int kind = 0; kind < 7; kind++) {
            x.rule(kind, kind + 1);
        }
        // RULE 0, v 1
        acts(x, 0, 0, 5, 5, 1);
        acts(x, 0, 1, 5, 4, 2, 1);
        acts(x, 0, 2, 5, 8, 3, 2, 1);
        // FIXED 1, v 2
        acts(x, 1, 0, 5, 16, 11, 1);
        acts(x, 1, 1, 5, 14, 2, 11, 1);
        acts(x, 1, 2, 5, 28, 3, 2, 11, 1);
        // SIGN 2, v 3
        acts(x, 2, 0, 5, 7, 1);
        acts(x, 2, 1, 5, 4, 2, 1);
        acts(x, 2, 2, 5, 8 ^ 7, 21, 3, 2, 1);
        // WATCH 3, v 4
        acts(x, 3, 0, 5, 8, 1);
        acts(x, 3, 1, 5, -4, 31, 2, 1);
        acts(x, 3, 2, 5, -8, 3, 31, 2, 1);
        // BEST 4, v 5
        acts(x, 4, 0, 5, 9, 1);
        acts(x, 4, 1, 5, -4, 31, 2, 1);
        acts(x, 4, 2, 5, -6 + 6, 41, 3, 31, 2, 1, 1);
        // SAFE 5, v 6
        acts(x, 5, 0, 5, 10 ^ 5, 51, 1);
        acts(x, 5, 1, 5, -((10 ^ 5) - 6), 31, 2, 51, 1);
        acts(x, 5, 2, 5, -((9 ^ 5) - 6) * 2 + (7 ^ 5), 41, 3, 31, 2, 51, 1, 51, 1);
        // TOLD 6, v 7
        acts(x, 6, 0, 5, 21, 11, 1);
        acts(x, 6, 1, 5, 21, 61, 2, 11, 1);
        acts(x, 6, 2, 5, 42, 3, 61, 2, 11, 1);
        acts(x, 1, 0, Integer.MAX_VALUE, Integer.MAX_VALUE * 3 + 1, 11, 1);
        acts(x, 4, 2, Integer.MIN_VALUE, -(Integer.MAX_VALUE + 4 - 5) * 2 + 6, 41, 3, 31, 2, 1, 1);
        acts(x, 7, 0, 5, 0);
        acts(x, 0, 0, 5, 5, 1);
        acts(x, 0, 3, 5, 0);
        acts(x, 0, 0, 5, 5, 1);
        acts(x, 0, -1, 5, 0);
        acts(x, -1, 0, 5, 0);
    }

    private static void as() {
        part = "25 as";
        Counted x = new Counted();
        due("no RULE", x.as(0, 0), -1);
        for (int kind = 0; kind < 7; kind++) {
            x.rule(kind, 7 - kind);
        }
        String[] above = {"0", "01", "02", "03", "034", "0345", "016"};
        for (int rule = 0; rule < 7; rule++) {
            for (int k = 0; k < 7; k++) {
                due("as(" + rule + ", " + k + ")", x.as(rule, k), above[rule].indexOf('0' + k) >= 0 ? 7 - rule : -6);
            }
        }
        due("NONE", x.as(0, 7), -1);
        due("NONE", x.as(0, -1), -1);
        due("NONE", x.as(7, 0), -1);
        due("NONE", x.as(-1, 0), -1);
    }

    private static void imageAndUndo() {
        part = "26 image, 27 undo";
        Counted x = led(PLAIN, HOT);
        due("STATE", x.undo(), -3);
        x.go(2, 1);
        x.wind(1, 1, 2, 3, 4, 5);
        x.rule(6, 3);
        x.row(0, 2);
        x.day(2, 1);
        x.day(0, 1);
        x.order(5, 9, 10);
        x.feed('c', 1);
        x.feed('o', 1);
        due("image()", x.image(), 2);
        due("the FAULT of the TAPE", x.mill(), -12);
        due("a third MILL", read(x, RISKY), 2);
        x.lead(2);
        x.go(5, 4);
        x.wind(1, 0, 0, 0, 0, 0);
        x.row(0, 7);
        x.rule(4, 1);
        x.row(0, 5);
        x.day(-1, 0);
        x.day(5, 5);
        x.order(1, 1, 99);
        x.act(1, 2, 5);
        due("undo()", x.undo(), 2);
        leads(x, 0, 1, 2, 1, 10, 0);
        for (int i = 0; i < 5; i++) {
            due("chance(1, " + i + ")", x.chance(1, i), i + 1);
        }
        int[] counts = {2, 1, 2, 1, 2, 6};
        for (int i = 0; i < 6; i++) {
            due("count(" + i + ")", x.count(i), counts[i]);
        }
        due("THE TRACE stays", x.trace(0), 41);
        due("the third is gone", x.lead(2), -1);
        due("ROW", x.sets(0, 5, 1, 0, 0), 2);
        due("DAY", x.judged(1), 13);
        due("ORDERS", x.take(), 1);
        due("the rest of the TAPE", x.feed(0x6f6c2031L, 4), 6);
        due("the TAPE was kept", x.mill(), 2);
        due("HEAT of another third", x.hour(2, 0, 0, 5, 0, 2), 4);
        due("undo() again", x.undo(), 2);
        due("the rest of the TAPE again", x.mill(), -12);
        due("another third", read(x, HOT), 2);
        due("by it", x.hour(2, 0, 6, 0, 0, 1), 9);
        due("a new image()", x.image(), 3);
        due("undo()", x.undo(), 3);
        due("RULE anew", x.rule(6, 5), 1);
        due("its ROW is empty", x.row(1, 4), 1);
        due("undo()", x.undo(), 3);
        due("RULE anew", x.rule(6, 5), 1);
        due("its ROW is empty again", x.sets(1, 0, 1, 0, 0), 5);
        Counted y = led(HOT, SLOW);
        y.image();
        y.lead(1);
        due("best of SLOW", y.best(4, 0, 1), 30000);
        y.undo();
        due("best of HOT", y.best(4, 0, 1), 21000);
        Counted z = new Counted();
        due("image of nothing", z.image(), 0);
        read(z, HOT);
        z.lead(0);
        due("undo to nothing", z.undo(), 0);
        due("none LED", z.led(0), -3);
        due("none LED", z.go(0, 0), -13);
    }

    private static void count() {
        part = "28 count";
        Counted x = with("cool 1", "cool 2");
        for (int i = 0; i < 3; i++) {
            x.rule(5, 0);
        }
        for (int i = 0; i < 4; i++) {
            x.day(0, 0);
        }
        for (int i = 0; i < 5; i++) {
            x.order(1, 1, 1);
        }
        x.feed(0, 7);
        x.act(0, 2, 1);
        int[] want = {2, 3, 4, 5, 7, 8};
        for (int i = 0; i < 6; i++) {
            due("count(" + i + ")", x.count(i), want[i]);
        }
        due("NONE", x.count(6), -1);
        due("NONE", x.count(-1), -1);
    }

    public static void main(String[] args) {
        aNewObject();
        feed();
        mill();
        hour();
        windAndChance();
        leading();
        rulesAndRows();
        setsOfKinds();
        mean();
        best();
        dress();
        dayAndJudged();
        orders();
        ridge();
        run();
        actsAndTrace();
        as();
        imageAndUndo();
        count();
        System.out.println(wrong == 0 ? "all promises hold" : wrong + " answers are not as due");
        if (wrong != 0) {
            System.exit(1);
        }
    }
}
