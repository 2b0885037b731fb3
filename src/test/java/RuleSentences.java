/** The sentences of promises 10 to 15 and 23 to 25: RULES, what they set and bring, BEST, DRESS, ACTS. */
final class RuleSentences extends Sentences {
    /** CLOTH 3 grinds most, but then it is hot for good. */
    private static final String HOT = "meal 9 c=3;heat 9 c=3;meal 4 c=0;burn 5";
    /** Three HOURS with CLOTH 3 grind nothing, behind them CLOTH 1 grinds a lot. */
    private static final String SLOW = "heat 1 c=3;meal 30 h=3&c=1;meal 2 c=0";
    private static final String WINDY = "meal 5 w=1&c=2;meal 6 w=2&c=3;meal 9 w=1&c=1&s=1";
    private static final String AWAY = "fast 9 w<6;edge 8;meal 5 c=1";

    private RuleSentences() {
    }

    static void all() {
        rules();
        ruleRefusals();
        rows();
        settings();
        signAndWatch();
        bestRule();
        safeRule();
        toldRule();
        setsRefusals();
        means();
        meansByHand();
        away();
        meanRefusals();
        best();
        bestRefusals();
        dress();
        dressRefusals();
        acts();
        bodies();
        traces();
        kinds();
    }

    // ---- promises 10, 11

    private static void rules() {
        holds(10, "RULES are numbered from 0 on, 10 at most, of KINDS: 0 RULE; 1 FIXED, 2 SIGN, 3 WATCH under RULE; "
            + "4 BEST under WATCH; 5 SAFE under BEST; 6 TOLD under FIXED.", x -> {
                for (int i = 0; i < 10; i++) {
                    due("count(1)", x.count(1), i);
                    due("rule", x.rule(i % 7, i % 8), i);
                }
                due("the eleventh", x.rule(0, 0), -4);
                due("count(1)", x.count(1), 10);
                due("the tenth", x.as(9, 2), 1);
                due("no eleventh", x.as(10, 0), -1);
                String[] above = {"0", "01", "02", "03", "034", "0345", "016"};
                for (int rule = 0; rule < 7; rule++) {
                    for (int k = 0; k < 7; k++) {
                        due("KIND " + rule + " under " + k, x.as(rule, k), above[rule].indexOf('0' + k) < 0 ? -6 : rule);
                    }
                }
            });
        holds(10, "Each has a number v (0 .. 7).", x -> {
            for (int v = 0; v < 8; v++) {
                due("rule", x.rule(6 - v % 7, v), v);
            }
            for (int v = 0; v < 8; v++) {
                due("v", x.as(v, 0), v);
            }
        });
        holds(10, "A RULE: its number.", x -> {
            due("the first", x.rule(6, 7), 0);
            due("a like one is another", x.rule(6, 7), 1);
            due("the third", x.rule(0, 0), 2);
        });
    }

    private static void ruleRefusals() {
        holds(10, "NONE: kind;", x -> {
            full(x);
            refused(x, -1, "rule", () -> x.rule(7, 0), () -> x.rule(-1, 0), () -> x.rule(MIN, 0), () -> x.rule(MAX, 0));
            refused(x, -1, "NONE ahead of BAD", () -> x.rule(7, 8), () -> x.rule(-1, -1));
        });
        holds(10, "BAD: v;", x -> {
            full(x);
            refused(x, -2, "rule", () -> x.rule(0, 8), () -> x.rule(6, -1), () -> x.rule(5, MIN), () -> x.rule(1, MAX));
            due("7 is not too large", x.rule(0, 7), 7);
        });
        holds(10, "FULL.", x -> {
            full(x);
            due("the eighth", x.rule(0, 0), 7);
            due("the ninth", x.rule(0, 0), 8);
            due("the tenth", x.rule(0, 0), 9);
            refused(x, -4, "rule", () -> x.rule(0, 0), () -> x.rule(6, 7));
            refused(x, -1, "NONE ahead of FULL", () -> x.rule(7, 0));
            refused(x, -2, "BAD ahead of FULL", () -> x.rule(0, 8));
        });
    }

    private static void rows() {
        holds(11, "A SETTING comes to the ROW of a TOLD RULE: how many.", x -> {
            x.rule(6, 0);
            x.rule(6, 1);
            for (int i = 1; i <= 10; i++) {
                due("row(0, ..)", x.row(0, 8 - (i + 1) / 2), i);
                due("row(1, ..)", x.row(1, i % 8), i);
            }
            lead(x, "cool 1");
            for (int t = 0; t < 10; t++) {
                due("as they came", x.sets(0, t, 1, 0, 0), 7 - t / 2);
                due("each its own", x.sets(1, t, 1, 0, 0), (t + 1) % 8);
            }
        });
        holds(11, "NONE;", x -> {
            full(x);
            refused(x, -1, "row", () -> x.row(7, 0), () -> x.row(-1, 0), () -> x.row(MIN, 0), () -> x.row(MAX, 0));
            refused(x, -1, "NONE ahead of BAD", () -> x.row(7, 8), () -> x.row(-1, -1));
            due("without RULES", new Counted().row(0, 0), -1);
        });
        holds(11, "BAD;", x -> {
            full(x);
            refused(x, -2, "row", () -> x.row(6, 8), () -> x.row(6, -1), () -> x.row(6, MIN), () -> x.row(6, MAX));
            refused(x, -2, "BAD ahead of STATE", () -> x.row(0, 8), () -> x.row(5, -1));
            due("7 is not too large", x.row(6, 7), 3);
            due("0 is not too small", x.row(6, 0), 4);
        });
        holds(11, "STATE: it is no TOLD one;", x -> {
            full(x);
            refused(x, -3, "row", () -> x.row(0, 0), () -> x.row(1, 0), () -> x.row(2, 0), () -> x.row(3, 0),
                () -> x.row(4, 0), () -> x.row(5, 7));
            due("a TOLD one", x.row(6, 0), 3);
        });
        holds(11, "FULL.", x -> {
            full(x);
            for (int i = 3; i <= 10; i++) {
                due("row", x.row(6, i % 8), i);
            }
            refused(x, -4, "row", () -> x.row(6, 0), () -> x.row(6, 7));
            refused(x, -2, "BAD ahead of FULL", () -> x.row(6, 8));
            x.rule(6, 0);
            due("another one is not", x.row(7, 0), 1);
        });
    }

    // ---- promise 12

    private static void settings() {
        holds(12, "The SETTING of an HOUR, t HOURS behind NOW as it begins (a RUN, a MEAN counts t 0, 1, .. from there;", x -> {
            lead(x, "meal 1 c=1;meal 10 c=2;meal 99 c=3");
            x.rule(6, 0);
            x.row(0, 2);
            x.row(0, 4);
            x.row(0, 1);
            due("t 0", x.sets(0, 0, 1, 0, 0), 2);
            due("t 1", x.sets(0, 1, 1, 0, 0), 4);
            x.go(0, 0);
            due("t 0 is NOW", x.sets(0, 0, 1, 0, 0), 2);
            due("a MEAN begins with t 0", x.mean(0, 1, 0, 0), 1000);
            due("then 1, 2, 0", x.mean(0, 4, 0, 0), 12000);
            due("a RUN begins with t 0", x.run(0, 4, 0, 0), 12);
            due("and anew", x.run(0, 2, 0, 0), 11);
            due("30 of them", x.run(0, 30, 0, 0), 110);
            due("NOW", x.led(1), 37);
            due("a MEAN", x.mean(0, 2, 0, 0), 11000);
        });
        holds(12, "a MILL that has RUN AWAY is asked as if it hadn't),", x -> {
            lead(x, "meal 5 h=2&c=1;meal 4 c=2;heat 2 w=0;fast 9 w=5;edge 8");
            for (int kind = 1; kind < 6; kind++) {
                x.rule(kind, 4);
            }
            x.go(0, 0);
            x.go(5, 0);
            due("it has", x.led(5), 1);
            due("FIXED", x.sets(0, 0, 3, 0, 0), 4);
            due("SIGN by HEAT 2", x.sets(1, 0, 3, 0, 0), 2);
            due("WATCH by HEAT 2", x.sets(2, 0, 3, 0, 0), 2);
            due("BEST by HEAT 2", x.sets(3, 0, 1, 0, 0), 2);
            due("SAFE by HEAT 2", x.sets(4, 0, 1, 0, 0), 2);
            x.lead(0);
            due("WATCH by HEAT 0", x.sets(2, 0, 3, 0, 0), 4);
        });
        holds(12, "by the WIND that there is, that of the HOUR before (in a RUN of its first HOUR: the same), HEAT, DULL: RULE: 0.", x -> {
            lead(x, "meal 5 w=1&c=2;meal 6 w=2&c=3;meal 9 w=3;heat 1 w=4;meal 7 h=1&d=0&c=1;wear 1 w=5;meal 8 d=1&c=2");
            x.rule(2, 0);
            x.rule(3, 0);
            x.rule(0, 7);
            x.wind(1, 0, 0, 1000, 0, 0);
            x.wind(2, 0, 1000, 0, 0, 0);
            due("the first HOUR: SIGN by the same WIND", x.run(0, 1, 0, 1), 5);
            due("then by that before", x.run(0, 2, 0, 1), 5);
            due("WINDS 1, 2, 1: by 1, 1, 2", x.run(0, 3, 0, 1), 5);
            due("WINDS 2, 1, 2, 1: by 2, 2, 1, 2", x.run(0, 4, 0, 2), 6);
            due("and anew in each RUN", x.run(0, 1, 0, 2), 6);
            due("SIGN: the HOUR before", x.sets(0, 0, 1, 2, 1), 4);
            due("WATCH: the WIND that there is", x.sets(1, 0, 1, 2, 1), 6);
            x.go(4, 0);
            due("HEAT", x.sets(1, 0, 1, 3, 3), 2);
            x.go(5, 0);
            due("DULL", x.sets(1, 0, 1, 3, 3), 4);
            for (int wind = 0; wind < 6; wind++) {
                due("RULE: 0", x.sets(2, wind, wind + 1, wind, wind), 0);
            }
        });
        holds(12, "FIXED: v.", x -> {
            lead(x, HOT);
            for (int v = 0; v < 8; v++) {
                x.rule(1, v);
                due("FIXED", x.sets(v, v, v % 6 + 1, v % 6, 5 - v % 6), v);
            }
        });
        holds(12, "The SETTING of a RULE, t HOURS (0 .. 9) behind NOW, left HOURS (1 .. 6) being left, by WIND, that before, "
            + "HEAT and DULL as it is LED.", x -> {
                lead(x, SLOW);
                x.rule(4, 0);
                x.rule(6, 0);
                for (int i = 0; i < 8; i++) {
                    x.row(1, i);
                }
                due("t 0", x.sets(1, 0, 1, 0, 0), 0);
                due("t 9", x.sets(1, 9, 1, 0, 0), 1);
                x.go(0, 6);
                due("HEAT 1, 3 left", x.sets(0, 0, 3, 0, 0), 6);
                due("HEAT 1, 2 left", x.sets(0, 0, 2, 0, 0), 0);
                due("HEAT 1, 6 left", x.sets(0, 9, 6, 5, 5), 6);
                x.go(0, 6);
                due("HEAT 2, 2 left", x.sets(0, 0, 2, 0, 0), 6);
                due("HEAT 2, 1 left", x.sets(0, 0, 1, 0, 0), 0);
                due("nothing went", x.led(1), 2);
            });
    }

    private static void signAndWatch() {
        holds(12, "SIGN: of SETTINGS with STONES v modulo 2 that with the greatest MEAL, not BURNT and not RUNNING AWAY, "
            + "if there were the WIND of the HOUR before (of several the least; 0, if there is none).", x -> {
                lead(x, WINDY);
                int[][] want = {{0, 4, 6}, {1, 3, 7}};
                for (int v = 0; v < 8; v++) {
                    x.rule(2, v);
                    for (int before = 0; before < 3; before++) {
                        due("v " + v + ", before " + before, x.sets(v, 0, 1, 2 - before, before), want[v % 2][before]);
                    }
                }
                lead(x, "burn 0;meal 5 c=2");
                due("all BURNT, STONES 0", x.sets(0, 0, 1, 0, 0), 0);
                due("all BURNT, STONES 1", x.sets(1, 0, 1, 0, 0), 0);
                lead(x, "fast 9 s=1;edge 8;meal 5 c=2");
                due("STONES 0", x.sets(0, 0, 1, 0, 0), 4);
                due("STONES 1, all RUNNING AWAY", x.sets(1, 0, 1, 0, 0), 0);
                lead(x, "fast 9 w=4&c=3;edge 8;meal 9 c=3;meal 2 c=1");
                due("RUNNING AWAY by the WIND before", x.sets(0, 0, 1, 0, 4), 2);
                due("not by that before", x.sets(0, 0, 1, 4, 0), 6);
                due("STONES 1", x.sets(1, 0, 1, 0, 4), 3);
                lead(x, "meal 3 c=1;meal 3 c=3;fast 9 c=0;edge 8");
                due("of several the least", x.sets(0, 0, 1, 0, 0), 2);
                due("of several the least, STONES 1", x.sets(1, 0, 1, 0, 0), 3);
            });
        holds(12, "WATCH: likewise by the WIND that there is, of all SETTINGS.", x -> {
            lead(x, WINDY);
            x.rule(3, 1);
            due("by WIND 1, STONES 1", x.sets(0, 0, 1, 1, 2), 3);
            due("by WIND 2, of 6 and 7 the least", x.sets(0, 0, 1, 2, 1), 6);
            due("by WIND 0: of all the least", x.sets(0, 0, 1, 0, 1), 0);
            lead(x, AWAY);
            due("all RUNNING AWAY", x.sets(0, 0, 1, 0, 0), 0);
            lead(x, "burn 0;meal 5 c=2");
            due("all BURNT", x.sets(0, 0, 1, 0, 0), 0);
            lead(x, "fast 9 c=0;edge 8");
            due("MEAL 0 is the greatest: the least that does not RUN AWAY", x.sets(0, 0, 1, 0, 0), 2);
            lead(x, "fast 9 w=4&c=3;edge 8;meal 9 c=3;meal 2 s=1");
            due("RUNNING AWAY by the WIND that there is", x.sets(0, 0, 1, 4, 0), 1);
            due("not by it", x.sets(0, 0, 1, 0, 4), 7);
        });
    }

    private static void bestRule() {
        holds(12, "BEST: the SETTING of BEST for as many HOURS as are left (with this one), but 3 at most.", x -> {
            x.rule(4, 0);
            lead(x, HOT);
            int[] hot = {6, 0, 0, 0, 0, 0};
            for (int left = 1; left <= 6; left++) {
                due("HOT, left " + left, x.sets(0, 0, left, 0, 0), hot[left - 1]);
            }
            lead(x, "heat 1 c=3;meal 30 h=2&c=1;meal 2 c=0");
            int[] warm = {0, 0, 6, 6, 6, 6};
            for (int left = 1; left <= 6; left++) {
                due("in the third HOUR, left " + left, x.sets(0, 0, left, 0, 0), warm[left - 1]);
            }
            lead(x, SLOW);
            for (int left = 1; left <= 6; left++) {
                due("in the fourth HOUR, left " + left, x.sets(0, 0, left, 0, 0), 0);
            }
            due("best() for 4 takes it", x.best(4, 0, 0), 6);
            due("a MEAN of BEST does not", x.mean(0, 6, 0, 0), 12000);
            due("nor a RUN", x.run(0, 6, 0, 0), 12);
        });
        holds(12, "BEST: the SETTING of BEST for as many HOURS as are left (with this one),", x -> {
            x.rule(4, 0);
            lead(x, HOT);
            due("in a MEAN the last HOUR has 1 left", x.mean(0, 5, 0, 0), 25000);
            due("in a RUN, too", x.run(0, 5, 0, 0), 25);
        });
    }

    private static void safeRule() {
        holds(12, "SAFE: as BEST, but of those SETTINGS alone by which it doesn't RUN AWAY in this HOUR with any WIND of v or less "
            + "(if there is none: 0).", x -> {
                for (int v = 0; v < 8; v++) {
                    x.rule(5, v);
                }
                lead(x, "fast 9 w=3&c=3;edge 8;meal 9 c=3;meal 5 c=2");
                for (int v = 0; v < 8; v++) {
                    due("v " + v + ", WIND 0", x.sets(v, 0, 1, 0, 0), v < 3 ? 6 : 4);
                    due("v " + v + ", WIND 3", x.sets(v, 0, 1, 3, 3), 4);
                    due("v " + v + ", WIND 5", x.sets(v, 0, 1, 5, 5), v < 3 ? 6 : 4);
                }
                lead(x, "fast 9 w=0;edge 8;meal 9 c=3");
                due("none by WIND 0: 0", x.sets(0, 0, 1, 1, 1), 0);
                due("none by WIND 0 .. 7: 0", x.sets(7, 0, 1, 1, 1), 0);
                lead(x, "fast 9 w=5;edge 8;meal 9 c=3");
                due("none by WIND 5", x.sets(5, 0, 1, 1, 1), 0);
                due("all by WIND 4", x.sets(4, 0, 1, 1, 1), 6);
                for (int cloth = 0; cloth < 4; cloth++) {
                    Counted y = led("fast 9 w=3&c=" + cloth + ";edge 8;meal 9 c=" + cloth + ";meal 5 c=" + (cloth + 2) % 4);
                    y.rule(5, 3);
                    y.rule(5, 2);
                    due("not by CLOTH " + cloth, y.sets(0, 0, 1, 0, 0), (cloth + 2) % 4 * 2);
                    due("by CLOTH " + cloth, y.sets(1, 0, 1, 0, 0), cloth * 2);
                    Counted z = led("fast 9 w=3&s=" + cloth % 2 + ";edge 8;meal 9 s=" + cloth % 2 + ";meal 2 c=" + cloth);
                    z.rule(5, 3);
                    z.rule(5, 2);
                    due("not by STONES " + cloth % 2, z.sets(0, 0, 1, 0, 0), cloth * 2 + 1 - cloth % 2);
                    due("by STONES " + cloth % 2, z.sets(1, 0, 1, 0, 0), cloth * 2 + cloth % 2);
                }
                due("all by WIND 4, and RUNNING AWAY by 5 brings 0", x.sets(4, 0, 1, 5, 1), 0);
            });
        holds(12, "by which it doesn't RUN AWAY in this HOUR with any WIND of v or less", x -> {
            x.rule(5, 1);
            lead(x, "fast 9 w=1&c=3&h=1;edge 8;heat 1 c=1;meal 9 c=3&h=1;meal 2 c=0");
            due("in this HOUR alone: the next may RUN AWAY with another WIND", x.sets(0, 0, 2, 0, 0), 2);
            x.go(0, 2);
            due("in the next one it may not", x.sets(0, 0, 1, 0, 0), 0);
        });
        holds(12, "SAFE: as BEST,", x -> {
            x.rule(5, 0);
            lead(x, HOT);
            due("left 1", x.sets(0, 0, 1, 0, 0), 6);
            due("left 2", x.sets(0, 0, 2, 0, 0), 0);
            lead(x, SLOW);
            due("3 at most", x.sets(0, 0, 6, 0, 0), 0);
            lead(x, "meal 3 c=1;meal 3 c=2;fast 9 c=0;edge 8");
            due("of several the least", x.sets(0, 0, 1, 0, 0), 2);
        });
    }

    private static void toldRule() {
        holds(12, "TOLD: its ROW of SETTINGS (10 at most), the t-th modulo how many (without a ROW as FIXED).", x -> {
            lead(x, "meal 1 c=1;meal 10 c=2");
            x.rule(6, 5);
            for (int t = 0; t < 10; t++) {
                due("without a ROW", x.sets(0, t, 1, 0, 0), 5);
            }
            x.row(0, 0);
            for (int t = 0; t < 10; t++) {
                due("a ROW of 1", x.sets(0, t, 1, 0, 0), 0);
            }
            int[] row = {0, 2, 4, 6, 1, 3, 5, 7, 2, 4};
            for (int size = 2; size <= 10; size++) {
                x.row(0, row[size - 1]);
                due("the last", x.sets(0, size - 1, 1, 0, 0), row[size - 1]);
                due("behind the last, or t 9", x.sets(0, Math.min(9, size), 1, 0, 0), row[Math.min(9, size) % size]);
                due("t 9", x.sets(0, 9, 6, 5, 5), row[9 % size]);
            }
            due("an eleventh", x.row(0, 0), -4);
            due("30 HOURS of a ROW of 10", x.run(0, 30, 0, 0), 3 * (1 + 10 + 1 + 10 + 1 + 10));
        });
    }

    private static void setsRefusals() {
        holds(12, "NONE;", x -> {
            full(x);
            refused(x, -1, "sets", () -> x.sets(7, 0, 1, 0, 0), () -> x.sets(-1, 0, 1, 0, 0), () -> x.sets(MIN, 0, 1, 0, 0),
                () -> x.sets(MAX, 0, 1, 0, 0), () -> x.sets(0, 0, 1, 6, 0), () -> x.sets(0, 0, 1, -1, 0),
                () -> x.sets(0, 0, 1, MIN, 0), () -> x.sets(0, 0, 1, MAX, 0), () -> x.sets(0, 0, 1, 0, 6),
                () -> x.sets(0, 0, 1, 0, -1), () -> x.sets(0, 0, 1, 0, MIN), () -> x.sets(0, 0, 1, 0, MAX));
            refused(x, -1, "NONE ahead of BAD", () -> x.sets(7, 10, 1, 0, 0), () -> x.sets(0, 0, 7, 6, 0), () -> x.sets(0, -1, 0, 0, 6));
            Counted none = new Counted();
            due("NONE ahead of STATE", none.sets(0, 0, 1, 0, 0), -1);
        });
        holds(12, "BAD;", x -> {
            full(x);
            refused(x, -2, "sets", () -> x.sets(0, 10, 1, 0, 0), () -> x.sets(0, -1, 1, 0, 0), () -> x.sets(6, MIN, 1, 0, 0),
                () -> x.sets(6, MAX, 1, 0, 0), () -> x.sets(4, 0, 0, 0, 0), () -> x.sets(4, 0, 7, 0, 0),
                () -> x.sets(4, 0, -1, 0, 0), () -> x.sets(4, 0, MIN, 0, 0), () -> x.sets(5, 0, MAX, 0, 0));
            Counted none = new Counted();
            none.rule(0, 0);
            due("BAD ahead of STATE", none.sets(0, 10, 1, 0, 0), -2);
            due("BAD ahead of STATE", none.sets(0, 0, 7, 0, 0), -2);
        });
        holds(12, "STATE.", x -> {
            mill(x, "cool 1");
            x.rule(0, 0);
            x.rule(1, 3);
            refused(x, -3, "sets", () -> x.sets(0, 0, 1, 0, 0), () -> x.sets(1, 9, 6, 5, 5));
            x.lead(0);
            due("LED", x.sets(1, 9, 6, 5, 5), 3);
        });
    }

    // ---- promise 13

    private static void means() {
        holds(13, "MEAN of a RULE for n HOURS (1 .. 6), the first with a told WIND (that of the HOUR before it being the same): "
            + "MEAL of the HOUR times 1000, and the mean of what comes behind: by all WINDS that may follow: "
            + "CHANCE times that, together, by 1000 (cut).", x -> {
                x.rule(1, 0);
                x.rule(2, 0);
                lead(x, times(9, "meal 99 w<9;") + "meal 99 w<9");
                for (int n = 1; n <= 6; n++) {
                    due("990 for " + n, x.mean(0, n, 3, 0), 990000L * n);
                }
                lead(x, "meal 4 w=1&c=0;meal 8 w=2&c=0;meal 1 w=5&c=1;meal 7 w=5&c=2");
                x.wind(0, 0, 250, 750, 0, 0);
                due("one HOUR", x.mean(0, 1, 2, 0), 8000);
                due("by CHANCES", x.mean(0, 2, 0, 0), 7000);
                due("three HOURS", x.mean(0, 3, 0, 0), 14000);
                due("six HOURS", x.mean(0, 6, 0, 0), 35000);
                due("the WIND before the first is the same", x.mean(1, 1, 5, 0), 7000);
                // from 2, by both ways to WIND 0 another SIGN: 2, 1, 0 and 2, 2, 0
                lead(x, "meal 7 w=0&c=2;meal 3 w=2&c=1;meal 1 w=1&c=2;meal 2 w=1&c=1");
                x.wind(2, 500, 500, 0, 0, 0);
                x.wind(1, 500, 0, 500, 0, 0);
                x.wind(0, 500, 0, 500, 0, 0);
                due("1 HOUR by the SIGN", x.mean(1, 1, 2, 0), 3000);
                due("2 HOURS by the SIGN", x.mean(1, 2, 2, 0), 3000 + (0 + 2000) / 2);
                due("3 HOURS by the SIGN of each", x.mean(1, 3, 2, 0), 3000 + (2000 + 3500 + 1500) / 2);
            });
        holds(13, "by all WINDS that may follow: CHANCE times that, together,", x -> {
            x.rule(1, 0);
            x.rule(4, 0);
            lead(x, "meal 1 w=0;meal 20 w=5;fast 9 w=4;edge 8");
            x.wind(1, 1000, 0, 0, 0, 0);
            x.wind(4, 0, 0, 0, 0, 0);
            due("by the CHANCES of that WIND alone", x.mean(0, 3, 0, 0), 3000);
            due("by the CHANCES of that WIND alone", x.mean(0, 3, 5, 0), 60000);
            due("by the CHANCES of that WIND alone", x.mean(1, 3, 0, 0), 3000);
            due("by the CHANCES of that WIND alone", x.mean(1, 3, 5, 0), 60000);
            due("by the CHANCES of that WIND alone", x.best(3, 0, 1), 3000);
            due("by the CHANCES of that WIND alone", x.best(3, 5, 1), 60000);
            due("AWAY, too", x.mean(0, 3, 3, 1), 0);
            due("a RUN, too", x.run(0, 3, 0, 5), 60);
            // HEAT by the one way, DULL by the other one
            lead(x, "heat 1 w=0;wear 1 w=1;meal 5 h=1&w=3;meal 3 d=1&w=3");
            x.wind(2, 500, 500, 0, 0, 0);
            x.wind(0, 0, 0, 0, 1000, 0);
            x.wind(1, 0, 0, 0, 1000, 0);
            due("HEAT is not DULL", x.mean(0, 3, 2, 0), 4000);
            due("HEAT is not DULL in BEST", x.best(3, 2, 1), 4000);
            due("1 HOUR less is another one", x.best(2, 2, 1), 0);
            lead(x, "meal 5 w=1;wear 1 w=2;meal 9 d=1&w=1;heat 2 w=3;meal 2 h=2");
            x.wind(2, 0, 500, 0, 500, 0);
            x.wind(3, 0, 500, 0, 500, 0);
            x.wind(1, 500, 500, 0, 0, 0);
            x.wind(0, 0, 1000, 0, 0, 0);
            due("2, then 1 or 3, DULL 1", x.mean(0, 2, 2, 0), (14000 + 0) / 2);
            due("1 HOUR more", x.mean(0, 3, 2, 0), (14000 + 7000 + (16000 + 2000) / 2) / 2);
            due("BEST of one SETTING", x.best(3, 2, 1), (14000 + 7000 + (16000 + 2000) / 2) / 2);
            due("and of 2", x.best(2, 2, 1), 7000);
        });
        holds(13, "CHANCE times that, together, by 1000 (cut).", x -> {
            lead(x, "meal 1 w=3");
            x.rule(1, 0);
            x.wind(0, 0, 500, 500, 0, 0);
            x.wind(1, 0, 0, 0, 1, 0);
            x.wind(2, 0, 0, 0, 1, 0);
            due("1 in 1000", x.mean(0, 2, 1, 0), 1);
            due("a half and a half of 1, together", x.mean(0, 3, 0, 0), 1);
            x.wind(0, 0, 500, 499, 0, 0);
            due("999 of 1000 are cut", x.mean(0, 3, 0, 0), 0);
            x.wind(1, 0, 0, 0, 1000, 0);
            due("500 * 1000 and 499 * 1, by 1000", x.mean(0, 3, 0, 0), 500);
            due("500 * 2000 and 499 * 2, by 1000", x.mean(0, 4, 0, 0), 1000);
        });
    }

    private static void meansByHand() {
        holds(13, "It begins with HEAT, DULL as it is LED;", x -> {
            lead(x, "meal 5 h=0&d=0;meal 3 h=1&d=0;meal 2 h=1&d=1;heat 1 w=0;wear 1 w=1;meal 9 h=2");
            x.rule(1, 0);
            due("HEAT 0", x.mean(0, 3, 0, 0), 17000);
            x.go(0, 0);
            due("HEAT 1", x.mean(0, 2, 0, 0), 12000);
            due("HEAT 1, then DULL 1", x.mean(0, 2, 1, 0), 5000);
            x.go(1, 0);
            due("HEAT 1, DULL 1", x.mean(0, 1, 2, 0), 2000);
            due("nothing went", x.led(1), 2);
        });
        holds(13, "an HOUR in which it RUNS AWAY and all behind it bring 0.", x -> {
            lead(x, "fast 9 w=2;edge 8;meal 5 w<9");
            x.rule(1, 0);
            x.wind(0, 0, 0, 500, 500, 0);
            x.wind(2, 0, 0, 0, 1000, 0);
            due("1 HOUR", x.mean(0, 1, 0, 0), 5000);
            due("2 HOURS", x.mean(0, 2, 0, 0), 7500);
            due("3 HOURS: none behind WIND 2", x.mean(0, 3, 0, 0), 10000);
            due("at once", x.mean(0, 6, 2, 0), 0);
            due("never", x.mean(0, 6, 3, 0), 30000);
        });
        holds(13, "MEAN (what 0), AWAY (1) of a RULE for n HOURS.", x -> {
            lead(x, "fast 9 w=5&c=3;edge 8;meal 9 c=3&w<5;meal 2 c=0;meal 7 c=1&h=0;burn 9");
            for (int kind = 0; kind < 7; kind++) {
                x.rule(kind, 6);
            }
            x.wind(4, 0, 0, 0, 0, 500);
            long[] means = {4000, 13500, 13500, 17000, 17000, 14000, 13500};
            long[] aways = {0, 500000, 500000, 0, 0, 0, 500000};
            for (int rule = 0; rule < 7; rule++) {
                due("MEAN of RULE " + rule, x.mean(rule, 2, 4, 0), means[rule]);
                due("AWAY of RULE " + rule, x.mean(rule, 2, 4, 1), aways[rule]);
            }
        });
    }

    private static void away() {
        holds(13, "AWAY: how likely it is that it RUNS AWAY in these HOURS, in millionths: 1000000 of an HOUR in which it does, "
            + "else the mean of what comes behind, likewise.", x -> {
                lead(x, "fast 9 w=2;edge 8;meal 5 w<9");
                x.rule(1, 0);
                x.wind(1, 0, 0, 1, 0, 0);
                x.wind(0, 0, 1, 0, 0, 0);
                x.wind(3, 1, 0, 0, 0, 0);
                x.wind(4, 0, 0, 400, 300, 300);
                for (int n = 1; n <= 6; n++) {
                    due("at once", x.mean(0, n, 2, 1), 1000000);
                    due("never", x.mean(0, n, 5, 1), 0);
                }
                due("not in 1 HOUR", x.mean(0, 1, 4, 1), 0);
                due("in 2", x.mean(0, 2, 4, 1), 400000);
                due("in 3", x.mean(0, 3, 4, 1), 520000);
                due("1 in 1000", x.mean(0, 2, 1, 1), 1000);
                due("1 in 1000000", x.mean(0, 3, 0, 1), 1);
                due("less is cut", x.mean(0, 4, 3, 1), 0);
            });
        holds(13, "(Having RUN AWAY already: both 0.)", x -> {
            lead(x, AWAY);
            x.rule(1, 2);
            due("ahead of it", x.mean(0, 3, 0, 1), 1000000);
            x.go(0, 0);
            due("MEAN", x.mean(0, 3, 0, 0), 0);
            due("AWAY", x.mean(0, 3, 0, 1), 0);
            due("NO is ahead of that", x.mean(0, 7, 0, 1), NO);
            x.lead(0);
            due("anew", x.mean(0, 3, 0, 1), 1000000);
        });
    }

    private static void meanRefusals() {
        holds(13, "NO: rule, n, wind, what, no MILL is LED.", x -> {
            Counted none = new Counted();
            due("no RULE, none LED", none.mean(0, 1, 0, 0), NO);
            none.rule(0, 0);
            due("none LED", none.mean(0, 1, 0, 0), NO);
            mill(none, "cool 1");
            due("none LED", none.mean(0, 6, 5, 1), NO);
            full(x);
            refused(x, NO, "rule", () -> x.mean(7, 1, 0, 0), () -> x.mean(-1, 1, 0, 0), () -> x.mean(MIN, 1, 0, 0), () -> x.mean(MAX, 1, 0, 0));
            refused(x, NO, "n", () -> x.mean(0, 0, 0, 0), () -> x.mean(0, 7, 0, 0), () -> x.mean(0, -1, 0, 0),
                () -> x.mean(0, MIN, 0, 0), () -> x.mean(0, MAX, 0, 0));
            refused(x, NO, "wind", () -> x.mean(0, 1, 6, 0), () -> x.mean(0, 1, -1, 0), () -> x.mean(0, 1, MIN, 0), () -> x.mean(0, 1, MAX, 0));
            refused(x, NO, "what", () -> x.mean(0, 1, 0, 2), () -> x.mean(0, 1, 0, -1), () -> x.mean(0, 1, 0, MIN), () -> x.mean(0, 1, 0, MAX));
            due("the last ones", x.mean(6, 6, 5, 1), 0);
        });
    }

    // ---- promise 14

    private static void best() {
        holds(14, "BEST for n HOURS: the SETTING by which MEAL times 1000 and the mean of what comes behind, by BEST for n less 1, "
            + "together, is greatest (of several the least; RUNNING AWAY brings 0).", x -> {
                lead(x, "fast 9 c=0;edge 8");
                due("all bring 0: the least, by which it RUNS AWAY", x.best(1, 0, 0), 0);
                due("0", x.best(6, 0, 1), 0);
                due("0 less 0", x.best(6, 0, 2), 0);
                lead(x, "fast 9 c=3;edge 8;meal 99 c=3;meal 1 c=1");
                for (int n = 1; n <= 6; n++) {
                    due("RUNNING AWAY brings 0", x.best(n, 0, 0), 2);
                    due("and nothing behind", x.best(n, 0, 1), 1000 * n);
                }
                lead(x, "fast 9 w<9;edge 8;meal 5 w<9");
                due("all RUN AWAY", x.best(3, 0, 0), 0);
                due("all RUN AWAY", x.best(3, 0, 1), 0);
                lead(x, "meal 3 c=1;meal 3 c=2");
                due("of several the least", x.best(4, 0, 0), 2);
            });
        holds(14, "BEST for n HOURS (1 .. 6): what 0 the SETTING, 1 MEAN by it, 2 LOOKING.", x -> {
            lead(x, HOT);
            int[] settings = {6, 0, 0, 0, 0, 0};
            int[] means = {9000, 13000, 17000, 21000, 25000, 29000};
            int[] looking = {0, 4000, 5000, 5000, 5000, 5000};
            for (int n = 1; n <= 6; n++) {
                due("SETTING for " + n, x.best(n, 3, 0), settings[n - 1]);
                due("MEAN for " + n, x.best(n, 3, 1), means[n - 1]);
                due("LOOKING for " + n, x.best(n, 3, 2), looking[n - 1]);
            }
            lead(x, times(9, "meal 99 w<9;") + "meal 99 w<9");
            due("the most", x.best(6, 0, 1), 5940000);
            lead(x, SLOW);
            due("4 HOURS see the fourth", x.best(4, 0, 1), 30000);
            due("3 HOURS do not", x.best(3, 0, 1), 6000);
            due("5 HOURS: 30 twice", x.best(5, 0, 1), 60000);
        });
        holds(14, "the mean of what comes behind, by BEST for n less 1,", x -> {
            lead(x, "meal 1 w=3&c=1;meal 4 w=1&c=2;meal 8 w=2&c=3");
            x.wind(0, 0, 250, 750, 0, 0);
            due("by CHANCES, and by BEST of each", x.best(2, 0, 1), 7000);
            x.wind(0, 0, 500, 499, 0, 0);
            x.wind(1, 0, 0, 0, 1, 0);
            x.wind(2, 0, 0, 0, 1, 0);
            due("cut", x.best(2, 1, 1), 4001);
            due("(500 * 4001 and 499 * 8001) by 1000, cut", x.best(3, 0, 1), (500 * 4001 + 499 * 8001) / 1000);
            x.wind(0, 1000, 0, 0, 0, 0);
            due("other CHANCES", x.best(3, 0, 1), 0);
        });
        holds(14, "LOOKING: that of BEST for n HOURS, less the greatest MEAN with one SETTING for all n HOURS.", x -> {
            lead(x, "meal 4 c=1;meal 3 c=2");
            for (int n = 1; n <= 6; n++) {
                due("one SETTING is best", x.best(n, 0, 2), 0);
            }
            lead(x, "meal 4 w=1&c=1;meal 8 w=2&c=2;meal 1 w=0&c=3");
            x.wind(0, 0, 500, 500, 0, 0);
            due("2 HOURS: 1000 and 2000 and 4000, less 4000", x.best(2, 0, 2), 3000);
            due("3 HOURS: 1000 and 12000, less 8000", x.best(3, 0, 2), 5000);
            for (int setting = 0; setting < 8; setting++) {
                Counted y = led("meal 5 c=" + setting / 2 + "&s=" + setting % 2 + ";meal 1 w=9");
                due("SETTING " + setting + " of all", y.best(4, 0, 2), 0);
                due("SETTING " + setting, y.best(4, 0, 0), setting);
            }
            lead(x, "fast 9 w=2;edge 8;meal 4 w=1");
            due("RUNNING AWAY in one of two", x.best(2, 0, 2), 0);
            lead(x, "fast 9 w=2&c>0;edge 8;meal 4 w=1&c>0;meal 3 w=2");
            due("2000 and 1500, less 2000", x.best(2, 0, 2), 1500);
        });
        holds(14, "(Having RUN AWAY: all 0.)", x -> {
            lead(x, "fast 9 w=5;edge 8;meal 4 c=1;meal 9 c=2&h=0;heat 1 w<9;burn 2");
            due("ahead of it", x.best(2, 0, 1), 13000);
            x.go(5, 0);
            for (int what = 0; what < 3; what++) {
                due("best(.., " + what + ")", x.best(2, 0, what), 0);
            }
            due("NO is ahead of that", x.best(2, 0, 3), NO);
            x.lead(0);
            due("anew", x.best(2, 0, 0), 4);
        });
    }

    private static void bestRefusals() {
        holds(14, "NO: n, wind, what, no MILL is LED.", x -> {
            due("no MILL", x.best(1, 0, 0), NO);
            full(x);
            refused(x, NO, "n", () -> x.best(0, 0, 0), () -> x.best(7, 0, 0), () -> x.best(-1, 0, 0), () -> x.best(MIN, 0, 0), () -> x.best(MAX, 0, 0));
            refused(x, NO, "wind", () -> x.best(1, 6, 0), () -> x.best(1, -1, 0), () -> x.best(1, MIN, 0), () -> x.best(1, MAX, 0));
            refused(x, NO, "what", () -> x.best(1, 0, 3), () -> x.best(1, 0, -1), () -> x.best(1, 0, MIN), () -> x.best(1, 0, MAX));
            due("the last ones", x.best(6, 5, 2), 0);
            Counted none = new Counted();
            mill(none, "cool 1");
            refused(none, NO, "none LED", () -> none.best(1, 0, 0), () -> none.best(6, 5, 1), () -> none.best(6, 5, 2));
        });
    }

    // ---- promise 15

    private static void dress() {
        holds(15, "DRESS: the stones may be dressed in one of n HOURS (nothing is ground in it, HEAT and DULL are 0 behind it):", x -> {
            lead(x, "meal 5 h=0&d=0;heat 9 w<9;wear 9 w<9");
            due("3 HOURS", x.dress(3, 0), 1);
            due("2 HOURS: as much as without", x.dress(2, 0), -5);
            x.go(0, 0);
            due("HEAT and DULL 9, 2 HOURS", x.dress(2, 0), 0);
            due("1 HOUR: nothing is ground in it", x.dress(1, 0), -5);
            due("nothing went", x.led(2), 9);
            lead(x, "fast 9 h=1;edge 8;heat 1 c=0;meal 5 w<9");
            due("0 and 5", x.dress(2, 0), -5);
            x.go(0, 0);
            due("it would RUN AWAY: not in the HOUR of DRESS", x.dress(2, 0), 0);
            due("without DRESS it does", x.mean(x.rule(3, 0), 2, 0, 1), 1000000);
        });
        holds(15, "the HOUR (0 .. n less 1) with which the MEAN of WATCH for n HOURS is greatest "
            + "(of several the least; -5: by none it is greater than without, or it has RUN AWAY).", x -> {
                lead(x, "meal 5 d<1;wear 1 w<9");
                due("1 HOUR", x.dress(1, 0), -5);
                due("2 HOURS: all are alike", x.dress(2, 0), -5);
                due("3 HOURS", x.dress(3, 0), 1);
                due("4 HOURS: 1 and 2 are alike", x.dress(4, 0), 1);
                lead(x, "meal 5 d<2;wear 1 w<9;meal 20 w=1");
                x.wind(0, 0, 1000, 0, 0, 0);
                x.wind(1, 0, 0, 1000, 0, 0);
                due("4 HOURS: not that with WIND 1", x.dress(4, 0), 2);
                due("3 HOURS: without 30, else 10, 10, 30", x.dress(3, 0), -5);
                lead(x, "meal 5 c=1&d<1;wear 1 c=1;fast 9 w=5;edge 8");
                due("by WATCH", x.dress(3, 0), 1);
                due("never worn: by WIND 5 it RUNS AWAY", x.dress(3, 5), -5);
                x.go(5, 0);
                due("it has RUN AWAY", x.dress(3, 0), -5);
                due("it has RUN AWAY", x.dress(4, 5), -5);
            });
        holds(15, "DRESS for n HOURS (1 .. 4).", x -> {
            lead(x, "meal 8 h<1;meal 1 h=9;heat 9 w=1");
            x.wind(0, 0, 500, 500, 0, 0);
            x.wind(1, 0, 0, 0, 1000, 0);
            due("1", x.dress(1, 0), -5);
            due("2: 8 and 8, else less", x.dress(2, 0), -5);
            due("3: without 8, 8, 1 or 8", x.dress(3, 0), -5);
            due("4: without 8, 8, 1, 1 or 8, 8, 8, 8", x.dress(4, 0), -5);
            due("from WIND 1: 8, 1, 1, 1; 0, 8, 8, 8 and 8, 0, 8, 8 are alike", x.dress(4, 1), 0);
        });
    }

    private static void dressRefusals() {
        holds(15, "NONE: wind;", x -> {
            refused(x, -1, "ahead of all", () -> x.dress(0, 6), () -> x.dress(5, -1), () -> x.dress(1, 6));
            full(x);
            refused(x, -1, "dress", () -> x.dress(1, 6), () -> x.dress(1, -1), () -> x.dress(1, MIN), () -> x.dress(1, MAX));
        });
        holds(15, "BAD;", x -> {
            refused(x, -2, "ahead of STATE", () -> x.dress(0, 0), () -> x.dress(5, 0));
            full(x);
            refused(x, -2, "dress", () -> x.dress(0, 0), () -> x.dress(5, 0), () -> x.dress(-1, 0), () -> x.dress(MIN, 0), () -> x.dress(MAX, 0));
            due("1 is not", x.dress(1, 0), -5);
            due("4 is not", x.dress(4, 5), -5);
        });
        holds(15, "STATE.", x -> {
            mill(x, "cool 1");
            refused(x, -3, "dress", () -> x.dress(1, 0), () -> x.dress(4, 5));
            x.lead(0);
            due("LED", x.dress(4, 5), -5);
        });
    }

    // ---- promises 23, 24

    private static void acts() {
        holds(23, "ACTS of a RULE with x (ints, wrapping): sets, turns, tells; i its number.", x -> {
            x.rule(0, 5);
            x.rule(3, 0);
            x.rule(0, 5);
            x.rule(1, 0);
            due("i 0", x.act(0, 0, MAX), MAX);
            due("i 2, wrapping", x.act(2, 0, MAX), MIN + 1);
            due("less v, wrapping", x.act(0, 1, MIN), MAX - 4);
            due("times 2, wrapping", x.act(0, 2, MIN + 6), 2);
            due("- of the least is the least", x.act(1, 1, MAX), MIN);
            due("times 3, wrapping", x.act(3, 0, MAX), MAX - 2 + 3);
            due("times 3, wrapping", x.act(3, 0, 1 << 30), -(1 << 30) + 3);
            due("none", x.act(0, 0, 0), 0);
        });
        holds(23, "An ACT (0 sets, 1 turns, 2 tells) of a RULE with x.", x -> {
            for (int i = 0; i < 10; i++) {
                x.rule(i % 7, 7 - i % 8);
            }
            int[] args = {0, 1, -1, 5, 100, MAX, MIN, MAX - 3, 123456789};
            for (int i = 0; i < 10; i++) {
                for (int act = 0; act < 3; act++) {
                    for (int arg : args) {
                        due("act(" + i + ", " + act + ", " + arg + ")", x.act(i, act, arg), done(i % 7, act, i, 7 - i % 8, arg));
                    }
                }
            }
        });
        holds(23, "0, and no TRACE then: no such RULE, act.", x -> {
            due("no RULE yet", x.act(0, 0, 5), 0);
            full(x);
            due("a TRACE", x.count(5), 8);
            refusedActs(x, () -> x.act(7, 0, 5));
            due("no TRACE then", x.count(5), 0);
            due("no TRACE then", x.trace(0), -1);
            Counted y = full(new Counted());
            for (int rule = -2; rule < 10; rule++) {
                for (int act : new int[] {-3, -2, -1, 3, 4, 5}) {
                    y.act(5, 2, 4);
                    due("act(" + rule + ", " + act + ")", y.act(rule, act, 5), 0);
                    due("no TRACE behind act(" + rule + ", " + act + ")", y.count(5), 0);
                }
            }
            refusedActs(x, () -> x.act(-1, 0, 5), () -> x.act(MIN, 0, 5), () -> x.act(MAX, 0, 5), () -> x.act(0, 3, 5));
            due("again", x.act(0, 0, 5), 5);
            due("a TRACE", x.trace(0), 1);
            due("no such act", x.act(0, -1, 5), 0);
            due("no TRACE then", x.count(5), 0);
            refusedActs(x, () -> x.act(0, MIN, 5), () -> x.act(0, MAX, 5), () -> x.act(7, 3, 5));
            due("no TRACE then", x.trace(0), -1);
        });
    }

    /** What an ACT of a KIND answers, its bodies put into one another by hand. */
    private static int done(int kind, int act, int i, int v, int x) {
        int[][] all = {
            {x + i, x + i - v, 2 * (x + i - v)},
            {3 * x + i, 3 * x + i - v, 2 * (3 * x + i - v)},
            {x + i, x + i - v, 2 * (x + i - v) ^ 7},
            {x + i, v - x - i, 2 * (v - x - i)},
            {x + i, v - x - i, 2 * (v - (x - 1) - i) + 2 + i},
            {x + i ^ i, v - (x + i ^ i), 2 * (v - (x - 1 + i ^ i)) + (2 + i ^ i)},
            {3 * x + i, 3 * x + i, 2 * (3 * x + i)}
        };
        return all[kind][act];
    }

    private static void trace(Counted x, int rule, int act, int... want) {
        x.act(rule, act, 9);
        due("bodies of act(" + rule + ", " + act + ")", x.count(5), want.length);
        for (int i = 0; i < want.length; i++) {
            due("trace(" + i + ") of act(" + rule + ", " + act + ")", x.trace(i), want[i]);
        }
        due("behind the last", x.trace(want.length), -1);
    }

    private static void bodies() {
        holds(23, "BODIES: RULE: 1 sets: x + i. 2 turns: sets(x) - v. 3 tells: turns(x) * 2. FIXED: 11 sets: super.sets(x * 3). "
            + "SIGN: 21 tells: super.tells(x) ^ 7. WATCH: 31 turns: -super.turns(x). BEST: 41 tells: super.tells(x - 1) + sets(2). "
            + "SAFE: 51 sets: super.sets(x) ^ i. TOLD: 61 turns: super.turns(x) + v.", x -> {
                for (int kind = 0; kind < 7; kind++) {
                    x.rule(kind, 3);
                }
                int[][] want = {{9, 6, 12}, {28, 25, 50}, {11, 8, 23}, {12, -9, -18}, {13, -10, -12}, {11, -8, -8}, {33, 33, 66}};
                for (int rule = 0; rule < 7; rule++) {
                    for (int act = 0; act < 3; act++) {
                        due("act(" + rule + ", " + act + ", 9)", x.act(rule, act, 9), want[rule][act]);
                    }
                }
            });
        holds(23, "sets(..) and so on: the body of its KIND, or, if that has none, of the next KIND above that has one; "
            + "super.sets(..): so from the KIND above the body's on; what stands in a body is done from the left on.", x -> {
                for (int kind = 0; kind < 7; kind++) {
                    x.rule(kind, 3);
                }
                trace(x, 0, 0, 1);
                trace(x, 0, 1, 2, 1);
                trace(x, 0, 2, 3, 2, 1);
                trace(x, 1, 0, 11, 1);
                trace(x, 1, 1, 2, 11, 1);
                trace(x, 1, 2, 3, 2, 11, 1);
                trace(x, 2, 0, 1);
                trace(x, 2, 1, 2, 1);
                trace(x, 2, 2, 21, 3, 2, 1);
                trace(x, 3, 0, 1);
                trace(x, 3, 1, 31, 2, 1);
                trace(x, 3, 2, 3, 31, 2, 1);
                trace(x, 4, 0, 1);
                trace(x, 4, 1, 31, 2, 1);
                trace(x, 4, 2, 41, 3, 31, 2, 1, 1);
                trace(x, 5, 0, 51, 1);
                trace(x, 5, 1, 31, 2, 51, 1);
                trace(x, 5, 2, 41, 3, 31, 2, 51, 1, 51, 1);
                trace(x, 6, 0, 11, 1);
                trace(x, 6, 1, 61, 2, 11, 1);
                trace(x, 6, 2, 3, 61, 2, 11, 1);
            });
    }

    private static void traces() {
        holds(24, "THE TRACE: the numbers of the bodies that ran in the latest act(), as they began; the first 20 are kept.", x -> {
            due("none yet", x.trace(0), -1);
            x.rule(5, 1);
            x.rule(0, 1);
            trace(x, 0, 2, 41, 3, 31, 2, 51, 1, 51, 1);
            trace(x, 1, 1, 2, 1);
            for (int i = 2; i < 20; i++) {
                due("of the latest alone", x.trace(i), -1);
            }
        });
        holds(24, "THE TRACE's i-th body.", x -> {
            x.rule(6, 0);
            x.act(0, 2, 1);
            int[] want = {3, 61, 2, 11, 1};
            for (int i = 0; i < 5; i++) {
                due("trace(" + i + ")", x.trace(i), want[i]);
                due("again", x.trace(i), want[i]);
            }
        });
        holds(24, "NONE.", x -> {
            refused(x, -1, "without a TRACE", () -> x.trace(0), () -> x.trace(-1), () -> x.trace(19), () -> x.trace(20));
            full(x);
            refused(x, -1, "trace", () -> x.trace(8), () -> x.trace(-1), () -> x.trace(MIN), () -> x.trace(MAX),
                () -> x.trace(19), () -> x.trace(20), () -> x.trace(21));
            due("the last one", x.trace(7), 1);
        });
    }

    // ---- promise 25

    private static void kinds() {
        holds(25, "A RULE taken for a KIND k (0 .. 6), or one under that: its v.", x -> {
            x.rule(5, 7);
            x.rule(6, 0);
            x.rule(0, 4);
            int[] safe = {7, -6, -6, 7, 7, 7, -6};
            int[] told = {0, 0, -6, -6, -6, -6, 0};
            for (int k = 0; k < 7; k++) {
                due("SAFE as " + k, x.as(0, k), safe[k]);
                due("TOLD as " + k, x.as(1, k), told[k]);
                due("RULE as " + k, x.as(2, k), k == 0 ? 4 : -6);
            }
            x.row(1, 5);
            due("v, not its ROW", x.as(1, 6), 0);
        });
        holds(25, "NONE: rule, k;", x -> {
            due("no RULE yet", x.as(0, 0), -1);
            full(x);
            refused(x, -1, "as", () -> x.as(7, 0), () -> x.as(-1, 0), () -> x.as(MIN, 0), () -> x.as(MAX, 0),
                () -> x.as(0, 7), () -> x.as(0, -1), () -> x.as(0, MIN), () -> x.as(0, MAX), () -> x.as(7, 7));
        });
        holds(25, "-6: it is of another KIND.", x -> {
            full(x);
            refused(x, -6, "beside it", () -> x.as(1, 2), () -> x.as(2, 3), () -> x.as(6, 2), () -> x.as(5, 6), () -> x.as(6, 3));
            refused(x, -6, "above one", () -> x.as(0, 1), () -> x.as(3, 4), () -> x.as(4, 5), () -> x.as(1, 6), () -> x.as(3, 5));
        });
    }
}
