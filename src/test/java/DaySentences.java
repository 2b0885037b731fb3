/** The sentences of promises 16 to 22: a DAY told by hand, ORDERS, RIDGES, RUNS. */
final class DaySentences extends Sentences {
    private static final String HOT = "meal 9 c=3;heat 9 c=3;meal 4 c=0;burn 5";
    /** MEAL tells the WINDS: of each another bit. */
    private static final String BITS = "meal 1 w=0;meal 2 w=1;meal 4 w=2;meal 8 w=3;meal 16 w=4;meal 32 w=5";

    private DaySentences() {
    }

    static void all() {
        days();
        judged();
        wrongAndCost();
        judgedRefusals();
        orders();
        take();
        late();
        ridges();
        restAndLost();
        runs();
        nextWinds();
        runRefusals();
    }

    // ---- promise 16

    private static void days() {
        holds(16, "A DAY told by hand: HOURS (10 at most, as they come), of each WIND and SETTING, "
            + "gone by the MILL as it is LED (till it RUNS AWAY).", x -> {
                lead(x, "meal 1 w=1&c=1&h=0;meal 2 w=2&c=2&h=1;meal 4 w=3&c=3&h=2;meal 8 s=1&d=1;heat 1 w<9;wear 1 s=1;fast 9 w=5;edge 8");
                x.day(1, 2);
                x.day(2, 4);
                x.day(3, 7);
                due("HEAT goes on", x.judged(1), 7);
                x.day(0, 1);
                due("DULL goes on", x.judged(1), 15);
                x.day(5, 0);
                due("it RUNS AWAY", x.judged(0), 4);
                x.day(0, 0);
                x.day(1, 0);
                x.day(0, 1);
                due("nothing behind it", x.judged(1), 15);
                for (int i = 9; i <= 10; i++) {
                    due("HOURS", x.day(0, 1), i);
                }
                due("10 at most", x.day(0, 1), -4);
                due("nothing went", x.led(1), 0);
                x.go(0, 0);
                due("as it is LED: HEAT 1", x.judged(1), 0 + 0 + 0 + 8);
            });
        holds(16, "An HOUR comes to the DAY: how many (wind -1: it is empty then, 0, whatever the other is).", x -> {
            lead(x, "meal 5 w<9");
            for (int i = 1; i <= 10; i++) {
                due("day", x.day(i % 6, i % 8), i);
            }
            due("FLOUR", x.judged(1), 50);
            due("a FULL one is emptied", x.day(-1, 0), 0);
            due("count(2)", x.count(2), 0);
            due("FLOUR", x.judged(1), 0);
            int[] others = {8, -1, 7, MIN, MAX};
            for (int other : others) {
                due("day", x.day(5, 7), 1);
                due("whatever the other is", x.day(-1, other), 0);
                due("count(2)", x.count(2), 0);
            }
            due("an empty one", x.day(-1, 0), 0);
            due("the first again", x.day(0, 0), 1);
        });
        holds(16, "NONE: wind;", x -> {
            full(x);
            refused(x, -1, "day", () -> x.day(6, 0), () -> x.day(-2, 0), () -> x.day(MIN, 0), () -> x.day(MAX, 0));
            refused(x, -1, "NONE ahead of BAD", () -> x.day(6, 8), () -> x.day(-2, -1));
        });
        holds(16, "BAD;", x -> {
            full(x);
            refused(x, -2, "day", () -> x.day(0, 8), () -> x.day(5, -1), () -> x.day(0, MIN), () -> x.day(0, MAX));
            due("7 is not too large", x.day(5, 7), 3);
        });
        holds(16, "FULL.", x -> {
            full(x);
            for (int i = 3; i <= 10; i++) {
                due("day", x.day(0, 0), i);
            }
            refused(x, -4, "day", () -> x.day(0, 0), () -> x.day(5, 7));
            refused(x, -1, "NONE ahead of FULL", () -> x.day(6, 0));
            refused(x, -2, "BAD ahead of FULL", () -> x.day(0, 8));
        });
    }

    // ---- promise 17

    private static void judged() {
        holds(17, "JUDGED: the first HOUR in which it RUNS AWAY, or its MEAL is BURNT (-5: none).", x -> {
            lead(x, "meal 5 w<5;heat 5 w=4;burn 5;fast 9 w=5;edge 8");
            due("an empty DAY", x.judged(0), -5);
            x.day(0, 0);
            x.day(4, 0);
            due("none", x.judged(0), -5);
            x.day(5, 0);
            due("RUNS AWAY, hot as it is", x.judged(0), 2);
            x.day(-1, 0);
            x.day(4, 0);
            x.day(0, 0);
            x.day(5, 0);
            due("BURNT ahead of RUNNING AWAY", x.judged(0), 1);
            x.day(-1, 0);
            x.day(5, 0);
            x.day(4, 0);
            x.day(4, 0);
            due("RUNS AWAY ahead of BURNT", x.judged(0), 0);
            x.day(-1, 0);
            for (int i = 0; i < 9; i++) {
                x.day(0, 0);
            }
            due("none", x.judged(0), -5);
            x.day(5, 0);
            due("the last HOUR", x.judged(0), 9);
            x.day(-1, 0);
            x.day(1, 0);
            x.go(4, 0);
            due("hot as it is LED", x.judged(0), 0);
        });
        holds(17, "FLOUR: MEAL (not BURNT) of all.", x -> {
            lead(x, "meal 99 w=1;meal 5 w=2;heat 3 w=2;burn 6;cool 1;fast 9 w=5;edge 8");
            due("an empty DAY", x.judged(1), 0);
            x.day(1, 0);
            x.day(2, 0);
            x.day(0, 0);
            x.day(1, 7);
            due("99, 5, 0, 99", x.judged(1), 203);
            x.day(-1, 0);
            for (int i = 0; i < 5; i++) {
                x.day(2, 0);
            }
            due("three, and two BURNT", x.judged(1), 15);
            x.day(5, 0);
            x.day(1, 0);
            due("none of RUNNING AWAY and behind it", x.judged(1), 15);
            x.day(-1, 0);
            for (int i = 0; i < 10; i++) {
                x.day(1, 0);
            }
            due("10 HOURS", x.judged(1), 990);
            due("flour of the MILL is another", x.led(4), 0);
        });
    }

    private static void wrongAndCost() {
        holds(17, "WRONG: the first HOUR in which by another SETTING there would have been more MEAL (BURNT, RUNNING AWAY: 0);", x -> {
            lead(x, "meal 3 c=1;meal 3 c=2;meal 1 s=1&w=1;fast 9 w=5&c=0;edge 8;heat 9 w=4;burn 9");
            due("an empty DAY", x.judged(2), -5);
            x.day(0, 2);
            due("as much is not more", x.judged(2), -5);
            x.day(0, 4);
            x.day(1, 3);
            due("the best ones", x.judged(2), -5);
            x.day(1, 2);
            x.day(0, 0);
            due("1 more", x.judged(2), 3);
            x.day(-1, 0);
            x.day(5, 0);
            due("RUNNING AWAY is 0, another one 3", x.judged(2), 0);
            x.day(-1, 0);
            x.day(5, 2);
            x.day(4, 2);
            x.day(0, 0);
            due("BURNT are all: none is more", x.judged(2), -5);
            x.day(5, 0);
            due("hot and RUNNING AWAY: none is more", x.judged(2), -5);
            mill(x, "fast 9 w<9;edge 8;meal 9 w<9");
            x.lead(1);
            due("RUNNING AWAY are all", x.judged(2), -5);
            mill(x, "fast 9 w=5&c=1;edge 8;meal 9 c=1;meal 2 c=0");
            x.lead(2);
            x.day(-1, 0);
            x.day(5, 0);
            due("RUNNING AWAY would not be more", x.judged(2), -5);
            x.day(5, 2);
            x.day(0, 0);
            due("2 is more than RUNNING AWAY", x.judged(2), 1);
            for (int setting = 0; setting < 8; setting++) {
                Counted y = led("meal 5 c=" + setting / 2 + "&s=" + setting % 2);
                y.day(0, setting);
                y.day(0, 7 - setting);
                due("by SETTING " + setting, y.judged(2), 1);
            }
        });
        holds(17, "COST: that in which the most more (of several the first; -5: none).", x -> {
            lead(x, "meal 9 w=2&c=3;meal 4 w=1&c=3;meal 3 c=1;fast 9 w=5&c=0;edge 8;heat 9 w=4;burn 9");
            due("an empty DAY", x.judged(3), -5);
            x.day(0, 2);
            due("none", x.judged(3), -5);
            x.day(1, 2);
            due("1 more", x.judged(3), 1);
            x.day(0, 0);
            due("3 more", x.judged(3), 2);
            x.day(0, 6);
            due("3 more, too: the first", x.judged(3), 2);
            x.day(2, 2);
            due("6 more", x.judged(3), 4);
            x.day(2, 0);
            due("9 more", x.judged(3), 5);
            due("WRONG is the first one", x.judged(2), 1);
            x.day(5, 2);
            x.day(4, 2);
            x.day(2, 0);
            due("nothing is more when it is hot", x.judged(3), 5);
            x.day(-1, 0);
            x.day(1, 2);
            x.day(5, 0);
            x.day(2, 0);
            due("3 more than RUNNING AWAY, and none behind it", x.judged(3), 1);
        });
        holds(17, "Of the DAY: what 0 JUDGED, 1 FLOUR, 2 WRONG (-5), 3 COST (-5).", x -> {
            lead(x, HOT);
            int[] empty = {-5, 0, -5, -5};
            for (int what = 0; what < 4; what++) {
                due("an empty DAY", x.judged(what), empty[what]);
            }
            x.day(0, 0);
            x.day(0, 2);
            x.day(0, 6);
            x.day(0, 6);
            int[] want = {3, 13, 0, 1};
            for (int what = 0; what < 4; what++) {
                due("judged(" + what + ")", x.judged(what), want[what]);
            }
        });
    }

    private static void judgedRefusals() {
        holds(17, "NONE;", x -> {
            refused(x, -1, "ahead of STATE", () -> x.judged(4), () -> x.judged(-1), () -> x.judged(MIN), () -> x.judged(MAX));
            full(x);
            refused(x, -1, "judged", () -> x.judged(4), () -> x.judged(-1), () -> x.judged(MIN), () -> x.judged(MAX));
        });
        holds(17, "STATE (also if it has RUN AWAY).", x -> {
            mill(x, "meal 1 w<9;fast 9 w=5;edge 8");
            x.day(0, 0);
            refused(x, -3, "none LED", () -> x.judged(0), () -> x.judged(1), () -> x.judged(2), () -> x.judged(3));
            x.lead(0);
            due("LED", x.judged(1), 1);
            x.go(5, 0);
            refused(x, -3, "it has RUN AWAY", () -> x.judged(0), () -> x.judged(1), () -> x.judged(2), () -> x.judged(3));
            refused(x, -1, "NONE ahead of that", () -> x.judged(4));
            x.lead(0);
            due("anew", x.judged(1), 1);
            x.day(5, 0);
            due("a DAY in which it would is none", x.judged(0), 1);
        });
    }

    // ---- promises 18, 19, 20

    private static void orders() {
        holds(18, "ORDERS are numbered from 0 on, 6 at most: so many HOURS of grinding (1 .. 20), "
            + "due at an HOUR (1 .. 99, counted from NOW), a PRICE (0 .. 99).", x -> {
                int[][] all = {{1, 1, 0}, {20, 99, 99}, {20, 1, 0}, {1, 99, 0}, {1, 1, 99}, {20, 20, 1}};
                for (int i = 0; i < 6; i++) {
                    due("order", x.order(all[i][0], all[i][1], all[i][2]), i);
                }
                due("a seventh", x.order(1, 1, 1), -4);
                due("count(3)", x.count(3), 6);
                due("20 HOURS by 20", x.late(32), 0);
                due("20 HOURS by 1", x.late(4), 4);
                due("20 HOURS by 99 and 20 by 20", x.late(34), 0);
                Counted y = led("meal 1 w<9");
                y.order(5, 5, 9);
                due("from NOW", y.late(1), 0);
                for (int i = 0; i < 9; i++) {
                    y.go(0, 0);
                }
                due("from NOW, whatever it is", y.late(1), 0);
                due("from NOW, whatever it is", y.take(), 1);
            });
        holds(18, "An ORDER: its number.", x -> {
            due("without a MILL", x.order(3, 3, 3), 0);
            due("a like one is another", x.order(3, 3, 3), 1);
            due("due ahead of both", x.order(1, 1, 3), 2);
        });
        holds(18, "BAD;", x -> {
            full(x);
            refused(x, -2, "hours", () -> x.order(0, 1, 1), () -> x.order(21, 99, 1), () -> x.order(-1, 1, 1), () -> x.order(MIN, 1, 1), () -> x.order(MAX, 1, 1));
            refused(x, -2, "due", () -> x.order(1, 0, 1), () -> x.order(1, 100, 1), () -> x.order(1, -1, 1), () -> x.order(1, MIN, 1), () -> x.order(1, MAX, 1));
            refused(x, -2, "price", () -> x.order(1, 1, -1), () -> x.order(1, 1, 100), () -> x.order(1, 1, MIN), () -> x.order(1, 1, MAX));
            due("the least ones", x.order(1, 1, 0), 2);
            due("the greatest ones", x.order(20, 99, 99), 3);
        });
        holds(18, "FULL.", x -> {
            full(x);
            for (int i = 2; i < 6; i++) {
                due("order", x.order(1, 1, 1), i);
            }
            refused(x, -4, "order", () -> x.order(1, 1, 1), () -> x.order(20, 99, 99));
            refused(x, -2, "BAD ahead of FULL", () -> x.order(0, 1, 1), () -> x.order(1, 1, 100));
        });
    }

    private static void take() {
        holds(19, "TAKE: of all sets of ORDERS that can be ground one behind the other so that each is ready when it is due "
            + "(those that are due first come first; of like ones the least) that with the greatest PRICE together; "
            + "of several the least as bits.", x -> {
                x.order(4, 10, 5);
                due("one", x.take(), 1);
                x.order(6, 10, 7);
                due("both are ready at 10", x.take(), 3);
                x.order(1, 10, 5);
                due("one of 5 and 7: the least as bits", x.take(), 3);
                x.order(1, 4, 6);
                due("7 and 6 and 5 of 1 HOUR", x.take(), 14);
                x.order(20, 19, 99);
                due("never ready", x.take(), 14);
                x.order(9, 9, 18);
                due("18 and 5 is more than 7, 6, 5, and than 18 alone", x.take(), 36);
                Counted y = new Counted();
                y.order(5, 9, 4);
                y.order(5, 9, 4);
                due("of like ones the least as bits", y.take(), 1);
                y.order(5, 4, 99);
                y.order(5, 5, 4);
                due("5 by 5 and another one by 10 is not by 9", y.take(), 1);
                y.order(4, 9, 0);
                due("a PRICE of 0 more is no more", y.take(), 1);
                Counted z = new Counted();
                z.order(2, 9, 3);
                z.order(2, 5, 3);
                z.order(2, 3, 3);
                due("due first, first: 2 by 3, 4 by 5, 6 by 9", z.take(), 7);
            });
        holds(19, "TAKE, as bits.", x -> {
            due("no ORDERS", x.take(), 0);
            x.order(1, 99, 0);
            due("a PRICE of 0", x.take(), 0);
            for (int i = 1; i < 6; i++) {
                x.order(20, 99, 1);
                due("ORDERS to " + i, x.take(), new int[] {0, 2, 6, 14, 30, 30}[i]);
            }
            Counted y = new Counted();
            for (int i = 0; i < 6; i++) {
                y.order(1, 6, 99);
            }
            due("all six", y.take(), 63);
            due("as bits", y.late(63), 0);
        });
    }

    private static void late() {
        holds(20, "LATE: ORDERS of a told set that are not ready, so ground.", x -> {
            x.order(5, 9, 1);
            x.order(5, 9, 1);
            x.order(3, 4, 1);
            x.order(2, 20, 1);
            due("none", x.late(0), 0);
            due("one", x.late(1), 0);
            due("the other", x.late(2), 0);
            due("of like ones the least first", x.late(3), 2);
            due("3, then 8", x.late(5), 0);
            due("3, 8, 13", x.late(7), 2);
            due("3, 8, 13, 15", x.late(15), 2);
            due("those behind a late one may be ready", x.late(11), 2);
            x.order(1, 1, 1);
            x.order(20, 1, 1);
            due("1, 21, all behind are late", x.late(63), 47);
            due("21, 24", x.late(36), 36);
            due("1, 4", x.late(20), 0);
        });
        holds(20, "LATE of a set, as bits.", x -> {
            due("no ORDERS", x.late(0), 0);
            for (int i = 0; i < 6; i++) {
                x.order(2, 1, 0);
            }
            for (int set = 0; set < 64; set++) {
                due("late(" + set + ")", x.late(set), set);
            }
        });
        holds(20, "BAD.", x -> {
            refused(x, -2, "no ORDERS", () -> x.late(1), () -> x.late(-1), () -> x.late(MIN), () -> x.late(MAX));
            full(x);
            refused(x, -2, "2 ORDERS", () -> x.late(4), () -> x.late(5), () -> x.late(-1), () -> x.late(64), () -> x.late(MIN), () -> x.late(MAX));
            due("all of them", x.late(3), 0);
            for (int i = 2; i < 6; i++) {
                x.order(1, 99, 1);
            }
            refused(x, -2, "6 ORDERS", () -> x.late(64), () -> x.late(-64), () -> x.late(1 << 30), () -> x.late(MIN));
            due("all of them", x.late(63), 0);
        });
    }

    // ---- promise 21

    private static void ridges() {
        holds(21, "RIDGE: MILLS a, b, c one behind the other, each with CLOTH 0 .. 3, STONES 0, HEAT, DULL 0: "
            + "WIND of the second is less by the CLOTH of the first, of the third by that of both together (0 at least).", x -> {
                mill(x, "meal 7 c=1");
                mill(x, "meal 1 w=4&c=2;meal 2 w=3&c=3;meal 3 w=2&c=2;meal 4 w=1&c=1;meal 5 w=0&c=2");
                mill(x, "meal 9 s=1&c=2;meal 9 h=1&c=3;meal 9 d>0&c=3;meal 1 s=0&h=0&d=0&c=1");
                mill(x, "meal 7 c=3");
                due("WIND 5, 4, 2", x.ridge(0, 1, 1, 5, 0), 122);
                due("WIND 4, 3, 0", x.ridge(0, 1, 1, 4, 0), 132);
                due("WIND 3, 2, 0", x.ridge(0, 1, 1, 3, 0), 122);
                due("WIND 1, 0 and 0 at least", x.ridge(0, 1, 1, 1, 0), 122);
                due("WIND 0, 0 at least", x.ridge(0, 1, 1, 0, 0), 122);
                due("WIND 2, 0 at least, -4: 0 at least", x.ridge(3, 3, 1, 2, 0), 332);
                due("STONES 0, HEAT 0, DULL 0", x.ridge(2, 2, 2, 5, 0), 111);
                due("the MILL that is LED is none of it", x.led(0), -3);
                mill(x, "meal 9 c>3;meal 1 c=0;meal 1 c=3");
                due("no CLOTH beyond 3", x.ridge(4, 4, 4, 3, 0), 0);
                due("no CLOTH beyond 3", x.ridge(4, 4, 4, 3, 1), 0);
            });
        holds(21, "RIDGE by a WIND: what 0 REST (100 ca, 10 cb and cc; -5), 1 LOST (0 or less; 1: there is no REST).", x -> {
            // by other CLOTH each one alone can be best ahead of the next: there is always a REST
            mill(x, "meal 5 c=1;meal 4 c=0");
            mill(x, "meal 9 w=3;meal 2 w=2&c=2");
            mill(x, "meal 3 w=0");
            due("REST", x.ridge(0, 1, 2, 3, 0), 120);
            due("LOST: 5, 2, 3 less 4, 9, 3", x.ridge(0, 1, 2, 3, 1), -6);
            due("REST, WIND 4", x.ridge(0, 1, 2, 4, 0), 100);
            due("LOST: 5, 9, 0 less 5, 9, 3", x.ridge(0, 1, 2, 4, 1), -3);
            for (int wind = 0; wind < 6; wind++) {
                for (int mills = 0; mills < 27; mills++) {
                    due("LOST is 0 or less", Math.max(0, x.ridge(mills / 9, mills / 3 % 3, mills % 3, wind, 1)), 0);
                }
            }
        });
    }

    private static void restAndLost() {
        holds(21, "REST: the first (ca, cb, cc), as a row, in which none would grind more by other CLOTH "
            + "(RUNNING AWAY is -1, BURNT 0); -5: none.", x -> {
                mill(x, "meal 5 c=1;meal 5 c=2");
                mill(x, "fast 9 c<2;edge 8");
                mill(x, "burn 0;meal 9 c=2;fast 9 c=0;edge 8");
                mill(x, "fast 9 w<9;edge 8;meal 9 c=1");
                due("the first as a row", x.ridge(0, 0, 0, 5, 0), 111);
                due("RUNNING AWAY is less than 0", x.ridge(1, 1, 1, 0, 0), 222);
                due("BURNT is 0, whatever the MEAL, and more than RUNNING AWAY", x.ridge(2, 2, 2, 0, 0), 111);
                due("RUNNING AWAY all", x.ridge(3, 3, 3, 0, 0), 0);
                due("each its own", x.ridge(3, 1, 2, 0, 0), 21);
                due("each its own", x.ridge(1, 2, 0, 0, 0), 211);
            });
        holds(21, "LOST: MEAL of all three in it, less the most that all three together can grind "
            + "(one that RUNS AWAY counts -1, BURNT 0).", x -> {
                mill(x, "fast 9 w<9;edge 8;meal 9 c=1");
                mill(x, "burn 0;meal 9 c=2");
                mill(x, "meal 5 c=3");
                mill(x, "fast 9 w<3;edge 8;meal 2 w>2");
                due("RUNNING AWAY all, -3 less -3", x.ridge(0, 0, 0, 5, 1), 0);
                due("BURNT all", x.ridge(1, 1, 1, 5, 1), 0);
                due("5 and -1, -1 less 5 and -1, -1", x.ridge(2, 0, 0, 5, 1), 0);
                due("REST: 5 by CLOTH 3, RUNNING AWAY by WIND 2", x.ridge(2, 3, 1, 5, 0), 300);
                due("LOST: 5, -1, 0, less 5, -1, 0 or 0, 2, 0", x.ridge(2, 3, 1, 5, 1), 0);
                due("REST: 5, then two", x.ridge(2, 3, 3, 5, 0), 300);
                due("LOST: 5, -1, -1, less 0, 2, 2", x.ridge(2, 3, 3, 5, 1), -1);
            });
        holds(21, "NONE: mills, wind, what.", x -> {
            due("no MILLS yet", x.ridge(0, 0, 0, 0, 0), -1);
            full(x);
            refused(x, -1, "a", () -> x.ridge(2, 0, 0, 0, 0), () -> x.ridge(-1, 0, 0, 0, 0), () -> x.ridge(MIN, 0, 0, 0, 0), () -> x.ridge(MAX, 0, 0, 0, 0));
            refused(x, -1, "b", () -> x.ridge(0, 2, 0, 0, 0), () -> x.ridge(0, -1, 0, 0, 0), () -> x.ridge(0, MIN, 0, 0, 0), () -> x.ridge(0, MAX, 0, 0, 0));
            refused(x, -1, "c", () -> x.ridge(0, 0, 2, 0, 0), () -> x.ridge(0, 0, -1, 0, 0), () -> x.ridge(0, 0, MIN, 0, 0), () -> x.ridge(0, 0, MAX, 0, 0));
            refused(x, -1, "wind", () -> x.ridge(0, 0, 0, 6, 0), () -> x.ridge(0, 0, 0, -1, 0), () -> x.ridge(0, 0, 0, MIN, 0), () -> x.ridge(0, 0, 0, MAX, 0));
            refused(x, -1, "what", () -> x.ridge(0, 0, 0, 0, 2), () -> x.ridge(0, 0, 0, 0, -1), () -> x.ridge(0, 0, 0, 0, MIN), () -> x.ridge(0, 0, 0, 0, MAX));
            due("the last ones", x.ridge(1, 1, 1, 5, 1), 0);
        });
    }

    // ---- promise 22

    private static void stands(Counted x, int... want) {
        for (int what = 0; what < 6; what++) {
            due("led(" + what + ")", x.led(what), want[what]);
        }
    }

    private static void runs() {
        holds(22, "A RUN of a RULE by SEED (0 .. 999), n HOURS, of the MILL that is LED, from a WIND on "
            + "(it goes these HOURS, as by go(), and stands as it is behind them):", x -> {
                lead(x, "meal 5 w<5;heat 2 w<9;wear 1 w<9;cool 1;burn 4;fast 9 w=5;edge 8");
                x.rule(0, 0);
                due("3 HOURS", x.run(0, 3, 0, 2), 15);
                stands(x, 0, 3, 3, 3, 15, 0);
                due("the fourth, then BURNT", x.run(0, 4, 999, 2), 5);
                stands(x, 0, 7, 7, 7, 20, 0);
                due("away", x.run(0, 2, 500, 5), 0);
                stands(x, 0, 9, 7, 7, 20, 1);
                due("away before", x.run(0, 5, 500, 0), 0);
                stands(x, 0, 14, 7, 7, 20, 1);
                mill(x, "meal 3 w=4");
                x.lead(1);
                due("of the one that is LED", x.run(0, 2, 0, 4), 6);
                Counted y = led("meal 3 w=1&c=2&h<2;meal 1 w=2;heat 1 w<9;wear 2 c=2;burn 5");
                Counted z = led("meal 3 w=1&c=2&h<2;meal 1 w=2;heat 1 w<9;wear 2 c=2;burn 5");
                y.rule(1, 4);
                y.run(0, 1, 7, 1);
                y.run(0, 1, 7, 2);
                y.run(0, 1, 7, 1);
                z.go(1, 4);
                z.go(2, 4);
                z.go(1, 4);
                for (int what = 0; what < 6; what++) {
                    due("as by go(), led(" + what + ")", y.led(what), z.led(what));
                }
            });
        holds(22, "It tells the flour that it ground by that (HOURS left: those of the RUN).", x -> {
            lead(x, HOT);
            x.rule(4, 0);
            x.go(0, 0);
            due("BEST by the HOURS of the RUN: 4, 4, 4, 4, 9", x.run(0, 5, 3, 0), 25);
            due("not what it ground before", x.led(4), 29);
            due("all BURNT", x.run(0, 5, 3, 0), 0);
            due("flour", x.led(4), 29);
            x.lead(0);
            due("1 HOUR is the last", x.run(0, 1, 3, 0), 9);
            x.lead(0);
            due("30 HOURS", x.run(0, 30, 3, 0), 29 * 4 + 9);
        });
        holds(22, "A RUN, n 1 .. 30.", x -> {
            lead(x, "meal 1 w<9");
            x.rule(0, 0);
            due("1", x.run(0, 1, 0, 0), 1);
            due("30", x.run(0, 30, 0, 0), 30);
            due("0", x.run(0, 0, 0, 0), NO);
            due("31", x.run(0, 31, 0, 0), NO);
            due("NOW", x.led(1), 31);
        });
    }

    /** The WIND that follows WIND 0 with these CHANCES (of 0, 1, 2, 3, 4), behind a RUN's first HOUR. */
    private static void follows(int want, int seed, int before, int... chances) {
        Counted x = led(BITS);
        x.rule(0, 0);
        for (int i = 0; i < before; i++) {
            x.go(0, 0);
        }
        x.wind(0, chances[0], chances[1], chances[2], chances[3], chances[4]);
        due("2 HOURS by SEED " + seed + ", NOW " + before, x.run(0, 2, seed, 0), 1 + (1 << want));
    }

    private static void nextWinds() {
        holds(22, "each HOUR the SETTING, then NOW is one more;", x -> {
            lead(x, "meal 1 c=1;meal 10 c=2");
            x.rule(6, 0);
            x.row(0, 2);
            x.row(0, 4);
            due("row 0, 1, 0", x.run(0, 3, 0, 0), 12);
            due("NOW", x.led(1), 3);
            due("row 0 again", x.run(0, 1, 0, 0), 1);
            due("NOW", x.led(1), 4);
        });
        holds(22, "the next WIND: the first one with which the CHANCES of WINDS up to it, together, are more than "
            + "(SEED times 31 and NOW times 17, together) times 7 modulo 1000, NOW as it is then (the last WIND that has a CHANCE, if none).", x -> {
                // seed 0, NOW 1 behind the first HOUR: 17 * 7 = 119
                follows(1, 0, 0, 119, 881, 0, 0, 0);
                follows(0, 0, 0, 120, 880, 0, 0, 0);
                follows(2, 0, 0, 60, 59, 881, 0, 0);
                follows(1, 0, 0, 60, 60, 880, 0, 0);
                follows(5, 0, 0, 0, 0, 0, 0, 0);
                follows(4, 0, 0, 0, 0, 0, 0, 120);
                follows(5, 0, 0, 0, 0, 0, 0, 119);
                // NOW 3: 357
                follows(1, 0, 2, 357, 643, 0, 0, 0);
                follows(0, 0, 2, 358, 642, 0, 0, 0);
                // NOW 9: 1071, 71
                follows(1, 0, 8, 71, 929, 0, 0, 0);
                follows(0, 0, 8, 72, 928, 0, 0, 0);
                // seed 193, NOW 1: (5983 + 17) * 7 = 42000, 0
                follows(0, 193, 0, 1, 999, 0, 0, 0);
                follows(1, 193, 0, 0, 1, 999, 0, 0);
                follows(5, 193, 0, 0, 0, 0, 0, 0);
                // seed 640, NOW 1: (19840 + 17) * 7 = 138999, 999
                follows(1, 640, 0, 999, 1, 0, 0, 0);
                follows(0, 640, 0, 1000, 0, 0, 0, 0);
                follows(2, 640, 0, 500, 0, 500, 0, 0);
                follows(5, 640, 0, 500, 0, 499, 0, 0);
                // seed 999, NOW 1: (30969 + 17) * 7 = 216902, 902
                follows(1, 999, 0, 902, 98, 0, 0, 0);
                follows(0, 999, 0, 903, 97, 0, 0, 0);
            });
        holds(22, "the next WIND: the first one with which the CHANCES of WINDS up to it, together, are more than", x -> {
            // seed 7: (217 + 17 NOW) * 7: 638, 757, 876, 995, 114, 233 behind the first six HOURS
            lead(x, BITS);
            x.rule(0, 0);
            x.wind(2, 500, 138, 0, 362, 0);
            x.wind(3, 0, 757, 100, 0, 143);
            x.wind(4, 876, 0, 0, 0, 0);
            x.wind(5, 100, 200, 300, 100, 295);
            x.wind(1, 113, 0, 0, 0, 887);
            due("WINDS 2, 3, 2", x.run(0, 3, 7, 2), 4 + 8 + 4);
            x.lead(0);
            due("WINDS 2, 3, 2, 3, 4", x.run(0, 5, 7, 2), 4 + 8 + 4 + 8 + 16);
            due("a RUN begins with its own WIND", x.run(0, 1, 7, 5), 32);
            x.lead(0);
            x.wind(4, 0, 0, 0, 0, 0);
            x.wind(5, 0, 0, 0, 638, 362);
            x.wind(3, 0, 0, 0, 1000, 0);
            due("by the CHANCES of its own WIND: 5, 4, 5", x.run(0, 3, 7, 5), 32 + 16 + 32);
        });
    }

    private static void runRefusals() {
        holds(22, "NO: rule, n, seed, wind, no MILL is LED, beyond HOUR 999.", x -> {
            Counted none = new Counted();
            due("no RULE, none LED", none.run(0, 1, 0, 0), NO);
            none.rule(0, 0);
            mill(none, "cool 1");
            due("none LED", none.run(0, 1, 0, 0), NO);
            full(x);
            refused(x, NO, "rule", () -> x.run(7, 1, 0, 0), () -> x.run(-1, 1, 0, 0), () -> x.run(MIN, 1, 0, 0), () -> x.run(MAX, 1, 0, 0));
            refused(x, NO, "n", () -> x.run(0, 0, 0, 0), () -> x.run(0, 31, 0, 0), () -> x.run(0, -1, 0, 0), () -> x.run(0, MIN, 0, 0), () -> x.run(0, MAX, 0, 0));
            refused(x, NO, "seed", () -> x.run(0, 1, -1, 0), () -> x.run(0, 1, 1000, 0), () -> x.run(0, 1, MIN, 0), () -> x.run(0, 1, MAX, 0));
            refused(x, NO, "wind", () -> x.run(0, 1, 0, 6), () -> x.run(0, 1, 0, -1), () -> x.run(0, 1, 0, MIN), () -> x.run(0, 1, 0, MAX));
            due("the last ones", x.run(6, 1, 999, 5), 4);
        });
        holds(22, "no MILL is LED, beyond HOUR 999.", x -> {
            lead(x, "meal 1 w<9");
            x.rule(0, 0);
            for (int i = 0; i < 32; i++) {
                x.run(0, 30, 0, 0);
            }
            x.run(0, 10, 0, 0);
            due("NOW", x.led(1), 970);
            refused(x, NO, "30 HOURS from 970", () -> x.run(0, 30, 0, 0));
            due("29 from 970", x.run(0, 29, 0, 0), 29);
            due("NOW", x.led(1), 999);
            refused(x, NO, "at 999", () -> x.run(0, 1, 0, 0), () -> x.run(0, 30, 999, 5));
            x.lead(0);
            for (int i = 0; i < 33; i++) {
                x.run(0, 30, 0, 0);
            }
            due("to 998", x.run(0, 8, 0, 0), 8);
            refused(x, NO, "2 HOURS from 998", () -> x.run(0, 2, 0, 0));
            due("1 HOUR from 998", x.run(0, 1, 0, 0), 1);
        });
    }
}
