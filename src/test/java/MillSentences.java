/** The sentences of promises 1 to 9: a new object, THE TAPE, MILLS, AN HOUR, WINDS, the MILL that is LED. */
final class MillSentences extends Sentences {
    private static final String[] WORDS = {"fast", "meal", "heat", "wear", "cool", "edge", "burn"};
    private static final String DIGITS = "0123456789";
    private static final String STARTS = "fmhwceb";
    private static final String TESTS = "wcshdf";
    private static final String OPENS = TESTS + "!(";
    private static final String TEN = "cool 1;" + "edge 2;burn 3;heat 4 w=1;".repeat(3);

    private MillSentences() {
    }

    static void all() {
        newObjects();
        tapes();
        numbersOfMills();
        clauses();
        expressions();
        openOnes();
        faults();
        hours();
        runningAway();
        heatAndDull();
        hourRefusals();
        winds();
        leading();
        going();
    }

    // ---- promise 1

    private static void newObjects() {
        holds(1, "No MILLS.", x -> {
            for (int what = 0; what < 6; what++) {
                due("count(" + what + ")", x.count(what), 0);
            }
            for (int mill = -1; mill < 6; mill++) {
                due("lead(" + mill + ")", x.lead(mill), -1);
                due("hour(" + mill + ", ..)", x.hour(mill, 0, 0, 0, 0, 0), -1);
                due("ridge(" + mill + ", ..)", x.ridge(mill, mill, mill, 0, 0), -1);
            }
            mill(x, "cool 1");
            due("another object has none", new Counted().count(0), 0);
            due("this one has", x.count(0), 1);
        });
        holds(1, "One MILL at a time is LED (none at first):", x -> {
            for (int what = 0; what < 6; what++) {
                due("led(" + what + ")", x.led(what), -3);
            }
            mill(x, "cool 1");
            mill(x, "cool 2");
            due("led(0): being read is not being LED", x.led(0), -3);
            x.lead(0);
            due("led(0)", x.led(0), 0);
            x.lead(1);
            due("led(0): the one alone", x.led(0), 1);
        });
        holds(1, "The constants: `NO = Long.MIN_VALUE`: There is no such number.", x -> {
            due("NO", MillWind.NO, Long.MIN_VALUE);
            due("mean, none LED", x.mean(0, 1, 0, 0), MillWind.NO);
        });
        holds(1, "public static final int NONE = -1, BAD = -2, STATE = -3, FULL = -4;", x -> {
            due("NONE", MillWind.NONE, -1);
            due("BAD", MillWind.BAD, -2);
            due("STATE", MillWind.STATE, -3);
            due("FULL", MillWind.FULL, -4);
        });
        holds(1, "An object is used for at most 512 calls after it has been made", x -> {
            for (int call = 1; call <= 509; call++) {
                due("call " + call, x.count(call % 6), 0);
            }
            due("call 510", x.feed('w', 1), 1);
            due("call 511", x.count(4), 1);
            due("call 512", x.mill(), -11);
        });
    }

    // ---- promise 2

    private static void tapes() {
        holds(2, "The n lowest bytes of w, the highest first, come behind THE TAPE's: how many it has.", x -> {
            due("1 of 8, the lowest", x.feed(0x7878787878787863L, 1), 1);
            due("3 of 8", x.feed(0xffffffffff6f6f6cL, 3), 4);
            due("2, the others 0", x.feed(0x2039L, 2), 6);
            due("cool 9 and no more", x.mill(), 0);
            due("HEAT 9 less 9", x.hour(0, 0, 0, 9, 0, 2), 0);
            due("8", x.feed(0x6d65616c20312077L, 8), 8);
            due("behind these", x.feed(0x3c39L, 2), 10);
            due("meal 1 w<9", x.mill(), 1);
            due("its MEAL", x.hour(1, 0, 0, 0, 0, 1), 1);
            due("the highest bit of a byte counts", x.feed(0xe3L, 1), 1);
            due("it is no c", x.mill(), -10);
            due("the sign of w is a bit as all", x.feed(-1L, 8), 8);
            due("255 is no c", x.mill(), -10);
            due("0 is a byte, too", x.feed(0, 8), 8);
            due("of its own", x.mill(), -10);
        });
        holds(2, "BAD: n not 1 .. 8;", x -> {
            x.feed('c', 1);
            refused(x, -2, "feed", () -> x.feed('o', 0), () -> x.feed('o', 9), () -> x.feed('o', -1),
                () -> x.feed('o', MIN), () -> x.feed('o', MAX), () -> x.feed('o', 1 << 30), () -> x.feed('o', 16));
            due("1 is not too small", x.feed('o', 1), 2);
            due("8 is not too large", x.feed(0x6f6c20313b656467L, 8), 10);
            due("4 more", x.feed(0x652031L, 3), 13);
            due("nothing came between: cool 1;edge 1", x.mill(), 0);
        });
        holds(2, "FULL.", x -> {
            for (int bytes = 8; bytes <= 112; bytes += 8) {
                due("feed", x.feed(0, 8), bytes);
            }
            due("7 fit", x.feed(0, 7), 119);
            refused(x, -4, "8 .. 2 bytes to 119", () -> x.feed(0, 8), () -> x.feed(0, 7), () -> x.feed(0, 3), () -> x.feed(0, 2));
            due("1 fits", x.feed(0, 1), 120);
            refused(x, -4, "1 .. 8 bytes to 120", () -> x.feed(0, 1), () -> x.feed(0, 2), () -> x.feed(0, 8));
            refused(x, -2, "BAD ahead of FULL", () -> x.feed(0, 9), () -> x.feed(0, 0), () -> x.feed(0, MIN));
            due("a MILL's end empties it", x.mill(), -10);
            due("then there is room", x.feed(0, 8), 8);
        });
        holds(2, "A MILL is read from THE TAPE (bytes, 120 at most): CLAUSES,", x -> {
            String most = "meal 1 w=10|w=10" + times(25, "|w=0") + "|w=5";
            due("its bytes", most.length(), 120);
            feed(x, most.substring(0, 119));
            due("2 are FULL", x.feed(0x3535L, 2), -4);
            due("1 is not", x.feed('5', 1), 120);
            due("all are read", x.mill(), 0);
            due("to the last one", x.hour(0, 5, 0, 0, 0, 1), 1);
            due("and it alone", x.hour(0, 4, 0, 0, 0, 1), 0);
            due("and the others", x.hour(0, 0, 0, 0, 0, 1), 1);
        });
    }

    // ---- promise 3

    private static void numbersOfMills() {
        holds(3, "THE TAPE, which is empty then (by a FAULT, too), is a MILL: its number;", x -> {
            for (int mill = 0; mill < 5; mill++) {
                feed(x, "cool 1x");
                due("a FAULT", x.mill(), -16);
                due("empty by a FAULT", x.count(4), 0);
                due("a FAULT is no MILL", x.count(0), mill);
                feed(x, "cool " + mill);
                due("its number", x.mill(), mill);
                due("empty by a MILL", x.count(4), 0);
                due("one more", x.count(0), mill + 1);
            }
            for (int mill = 0; mill < 5; mill++) {
                due("each is its own", x.hour(mill, 0, 0, 9, 0, 2), 9 - mill);
            }
            Counted y = new Counted();
            for (int i = 0; i < 20; i++) {
                due("many FAULTS", read(y, "meal 1 w=1|w=1|w=1|w=1|w=1|w=1|w=1;"), -45);
            }
            due("then a MILL", read(y, "meal 1 w=2&c=1|w=3"), 0);
            due("of its own text", y.hour(0, 2, 2, 0, 0, 1), 1);
            due("of its own text", y.hour(0, 1, 2, 0, 0, 1), 0);
            due("of its own text", y.hour(0, 3, 4, 0, 0, 1), 1);
        });
        holds(3, "-10 less the FAULT.", x -> {
            due("an empty TAPE: FAULT 0", x.mill(), -10);
            due("FAULT 0 again", read(x, ";"), -10);
            due("FAULT 1", read(x, "fool 1"), -11);
            due("FAULT 69, behind 10 CLAUSES", read(x, times(10, "cool 1;")), -79);
            String most = "meal 1 w=10|w=10" + times(26, "|w=0");
            due("FAULT 119, the last byte", read(x, most.substring(0, 119) + "x"), -129);
            due("FAULT 120, the size", read(x, most.substring(0, 116) + "|!!w"), -130);
        });
        holds(3, "FULL (ahead of all; THE TAPE stays).", x -> {
            for (int mill = 0; mill < 5; mill++) {
                mill(x, "cool " + mill);
            }
            refused(x, -4, "an empty TAPE", x::mill, x::mill);
            feed(x, "cool 6");
            refused(x, -4, "a MILL", x::mill, x::mill);
            due("THE TAPE stays", x.count(4), 6);
            x.feed('x', 1);
            refused(x, -4, "FULL ahead of a FAULT", x::mill, x::mill);
            due("THE TAPE stays", x.feed('x', 1), 8);
        });
        holds(3, "FULL (ahead of all;", x -> {
            for (int mill = 0; mill < 4; mill++) {
                mill(x, "cool " + mill);
            }
            x.image();
            mill(x, "cool 5");
            feed(x, "cool 6x");
            due("no FAULT is told", x.mill(), -4);
            x.undo();
            due("with 4 it is not FULL", x.mill(), -10);
            due("the fifth", read(x, "cool 7"), 4);
        });
        holds(3, "MILLS are numbered from 0 on, 5 at most.", x -> {
            for (int mill = 0; mill < 5; mill++) {
                due("number", read(x, "burn " + mill), mill);
            }
            due("the sixth", read(x, "burn 5"), -4);
            due("count(0)", x.count(0), 5);
            due("lead(4)", x.lead(4), 1);
            due("lead(5)", x.lead(5), -1);
        });
    }

    private static void clauses() {
        holds(3, "10 at most, with ; between: fast n E; meal n E; heat n E; wear n E; cool n; edge n; burn n", x -> {
            fault("", 0);
            due("10 CLAUSES", TEN.split(";").length, 10);
            String ten = TEN.substring(0, TEN.length() - 1);
            fine(ten);
            fault(TEN, ten.length());
            fault(TEN + "cool 1", ten.length());
            fault(TEN + ";", ten.length());
            only(ten.substring(0, ten.length() - 1) + "1", DIGITS + "&|");
            only(ten.substring(0, ten.length() - 1) + "11", "&|");
            fine(ten + "&(c=1|s=0)");
            fine(ten.substring(0, ten.lastIndexOf(';')));
            early("cool 1;");
            fault(";cool 1", 0);
            fault("cool 1;;cool 1", 7);
            fault("cool 1; cool 1", 7);
            fault("cool 1 ;cool 1", 6);
            fault("cool 1,cool 1", 6);
            fine("fast 1 w=1;meal 2 c=1;heat 3 s=1;wear 4 h=1;cool 5;edge 6;burn 7");
            fine("burn 7;burn 7;wear 4 d=1;wear 4 f=1;fast 1 w=1");
        });
        holds(3, "fast n E; meal n E; heat n E; wear n E; cool n; edge n; burn n", x -> {
            only("", STARTS);
            only("cool 1;", STARTS);
            for (String word : WORDS) {
                for (int i = 1; i < 4; i++) {
                    only(word.substring(0, i), word.substring(i, i + 1));
                }
                only(word, " ");
                fault(word.toUpperCase() + " 1", 0);
            }
            for (String word : new String[] {"cool", "edge", "burn"}) {
                fine(word + " 1");
                fault(word + " 1 w=1", 6);
                fault(word + " 1 ", 6);
            }
            for (String word : new String[] {"fast", "meal", "heat", "wear"}) {
                fine(word + " 1 w=1");
                early(word + " 1");
                early(word + " 1 ");
                fault(word + " 1;cool 1", 6);
                fault(word + " 1 ;cool 1", 7);
            }
        });
        holds(3, "(one blank ahead of each part behind the word;", x -> {
            fault("cool1", 4);
            fault("cool  1", 5);
            fault(" cool 1", 0);
            fault("cool 1 ", 6);
            fault("fast 1w=1", 6);
            fault("fast 1  w=1", 7);
            fault("fast 1 w =1", 8);
            fault("fast 1 w= 1", 9);
            fault("fast 1 w=1 ", 10);
            fault("fast 1 ( w=1)", 8);
            fault("fast 1 (w=1 )", 11);
            fault("fast 1 ! w=1", 8);
            fault("fast 1 w=1 &w=1", 10);
            fault("fast 1 w=1| w=1", 11);
            fault("fast\t1 w=1", 4);
        });
        holds(3, "n 1 or 2 digits, no 0 ahead of another).", x -> {
            for (int n = 0; n < 100; n++) {
                fine("cool " + n);
            }
            only("cool ", DIGITS);
            only("cool 0", ";");
            only("cool 1", DIGITS + ";");
            only("cool 10", ";");
            only("cool 99", ";");
            only("fast ", DIGITS);
            only("fast 0", " ");
            only("fast 1", DIGITS + " ");
            only("fast 12", " ");
            fault("cool 00", 6);
            fault("cool 01", 6);
            fault("cool 100", 7);
            fault("cool -1", 5);
            fault("cool +1", 5);
            early("cool ");
        });
        holds(3, "Of cool, edge, burn the last n holds (0, 99, 99 without).", x -> {
            mill(x, "fast 99 w=1;fast 12 w=2;meal 3 w<9;heat 2 w<9");
            due("cool 0 without", x.hour(0, 0, 0, 5, 0, 2), 7);
            due("edge 99 without: 99 does not RUN AWAY", x.hour(0, 1, 0, 0, 0, 5), 0);
            due("burn 99 without: HEAT 9 is not BURNT", x.hour(0, 0, 0, 9, 0, 4), 0);
            mill(x, "cool 9;cool 1;edge 5;edge 12;burn 2;burn 4;fast 12 w=1;fast 13 w=2;meal 3 w<9");
            due("the last cool", x.hour(1, 0, 0, 5, 0, 2), 4);
            due("the last edge, no less", x.hour(1, 1, 0, 0, 0, 5), 0);
            due("the last edge, no more", x.hour(1, 2, 0, 0, 0, 5), 1);
            due("the last burn, no less", x.hour(1, 0, 0, 3, 0, 4), 0);
            due("the last burn, no more", x.hour(1, 0, 0, 4, 0, 4), 1);
            mill(x, "burn 9;edge 9;cool 3;cool 0;edge 0;burn 0;fast 1 w=1;meal 3 w<9");
            due("cool 0 is the last", x.hour(2, 0, 0, 5, 0, 2), 5);
            due("edge 0: FAST 0 does not RUN AWAY", x.hour(2, 0, 0, 0, 0, 5), 0);
            due("edge 0: FAST 1 does", x.hour(2, 1, 0, 0, 0, 5), 1);
            due("burn 0: HEAT 0 is BURNT", x.hour(2, 0, 0, 0, 0, 4), 1);
            mill(x, "cool 2;edge 99;burn 99;meal 1 w<9");
            due("burn 99: HEAT 9 is not", x.hour(3, 0, 0, 9, 0, 4), 0);
            due("each MILL its own", x.hour(3, 0, 0, 9, 0, 2), 7);
            fault("fast 9 w<9;cool 9;edge 0;burn 0;meal 9 w<9;x", 43);
            due("a FAULT", read(x, "fast 9 w<9;cool 9;edge 0;burn 0;meal 9 w<9;x"), -53);
            mill(x, "fast 5 w<9;meal 4 w<9");
            due("a FAULT leaves no fast", x.hour(4, 0, 0, 9, 0, 0), 5);
            due("a FAULT leaves no cool", x.hour(4, 0, 0, 9, 0, 2), 9);
            due("a FAULT leaves no edge, burn, meal", x.hour(4, 0, 0, 9, 0, 1), 4);
        });
    }

    /** Whether an E holds: by MEAL of a MILL that has it alone. */
    private static void truth(String e, int wind, int setting, int heat, int dull, boolean want) {
        Counted x = new Counted();
        mill(x, "meal 1 " + e);
        due("MEAL by " + e + " with " + wind + ", " + setting + ", " + heat + ", " + dull,
            x.hour(0, wind, setting, heat, dull, 1), want ? 1 : 0);
    }

    private static void expressions() {
        holds(3, "E: T, or T|E.", x -> {
            only("fast 1 w=11|", OPENS);
            early("fast 1 w=1|");
            fault("fast 1 |w=1", 7);
            fault("fast 1 w=1||w=1", 11);
            fine("fast 1 " + times(28, "w=1|").substring(0, 111));
            for (int wind = 0; wind < 6; wind++) {
                truth("w=1|w=3", wind, 0, 0, 0, wind == 1 || wind == 3);
                truth("w=1|w=3|w=5", wind, 0, 0, 0, wind % 2 == 1);
                truth("w=0|c=0&w=3", wind, 2, 0, 0, wind == 0);
                truth("c=0&w=3|w=0", wind, 2, 0, 0, wind == 0);
                truth("w=0&c=1|w=3&c=1|w=4&c=0", wind, 2, 0, 0, wind == 0 || wind == 3);
                truth("(w=0|w=3)&c=0", wind, 2, 0, 0, false);
            }
        });
        holds(3, "T: F, or F&T.", x -> {
            only("fast 1 w=11&", OPENS);
            early("fast 1 w=1&");
            fault("fast 1 &w=1", 7);
            fault("fast 1 w=1&&w=1", 11);
            fault("fast 1 w=1&|w=1", 11);
            fine("fast 1 " + times(28, "w=1&").substring(0, 111));
            for (int wind = 0; wind < 6; wind++) {
                truth("w>1&w<4", wind, 0, 0, 0, wind == 2 || wind == 3);
                truth("w>1&w<5&w>3", wind, 0, 0, 0, wind == 4);
                truth("w<4&(w>1&w<9)", wind, 0, 0, 0, wind == 2 || wind == 3);
                truth("w>1&!w>3", wind, 0, 0, 0, wind == 2 || wind == 3);
                truth("!w>3&w>1", wind, 0, 0, 0, wind == 2 || wind == 3);
            }
        });
        holds(3, "F: !F, (E), or a TEST:", x -> {
            early("fast 1 !");
            early("fast 1 (");
            fault("fast 1 ()", 8);
            fault("fast 1 )", 7);
            fault("fast 1 w=1)", 10);
            fault("fast 1 (w=1))", 12);
            early("fast 1 (w=1");
            early("fast 1 ((w=1)");
            fault("fast 1 (w=1;cool 1", 11);
            fault("fast 1 w=1(w=1)", 10);
            fault("fast 1 w=1!w=1", 10);
            fault("fast 1 (w=1)(w=1)", 12);
            only("fast 1 ", OPENS);
            only("fast 1 !", OPENS);
            only("fast 1 (", OPENS);
            only("fast 1 (w=0", "&|)");
            only("fast 1 (w=0)", ";&|");
            for (int wind = 0; wind < 6; wind++) {
                truth("!w=2", wind, 0, 0, 0, wind != 2);
                truth("!!w=2", wind, 0, 0, 0, wind == 2);
                truth("!!!w=2", wind, 0, 0, 0, wind != 2);
                truth("!!!!!w=2", wind, 0, 0, 0, wind != 2);
                truth("(w=2)", wind, 0, 0, 0, wind == 2);
                truth("!(w=2|w=3)", wind, 0, 0, 0, wind != 2 && wind != 3);
                truth("!(!w=2&!w=3)", wind, 0, 0, 0, wind == 2 || wind == 3);
                truth("!w=2|w=2", wind, 0, 0, 0, true);
                truth("!(w=2)&w<3", wind, 0, 0, 0, wind < 2);
            }
        });
        holds(3, "w or c or s or h or d or f, one of < = >, a number likewise:", x -> {
            only("fast 1 w", "<=>");
            only("fast 1 w=", DIGITS);
            only("fast 1 w=0", ";&|");
            only("fast 1 f>9", DIGITS + ";&|");
            only("fast 1 d<99", ";&|");
            for (int i = 0; i < TESTS.length(); i++) {
                char sign = TESTS.charAt(i);
                early("heat 1 " + sign);
                early("heat 1 " + sign + "<");
                fault("heat 1 " + sign + "==1", 9);
                fault("heat 1 " + sign + "<=1", 9);
                fault("heat 1 " + sign + "1", 8);
                fault("heat 1 " + sign + "=00", 10);
                fault("heat 1 " + sign + "=09", 10);
                fault("heat 1 " + sign + "=100", 11);
                fault("heat 1 " + sign + "=-1", 9);
                fine("heat 1 " + sign + "<0&" + sign + "=10&" + sign + ">99");
            }
            for (int wind = 0; wind < 6; wind++) {
                for (int n = 0; n < 8; n++) {
                    truth("w<" + n, wind, 0, 0, 0, wind < n);
                    truth("w=" + n, wind, 0, 0, 0, wind == n);
                    truth("w>" + n, wind, 0, 0, 0, wind > n);
                }
                Counted y = new Counted();
                mill(y, "fast 99 w<9;meal 1 w>99|c>99|s>99|h>99|d>99|f>99;meal 2 w>98|c>98|s>98|h>98|d>98;meal 4 f>98");
                due("each sign its own, to 99", y.hour(0, wind, 7, 9, 9, 1), 4);
                truth("w<99", wind, 0, 0, 0, true);
                truth("w=99", wind, 0, 0, 0, false);
                truth("w<0", wind, 0, 0, 0, false);
            }
        });
        holds(3, "w WIND (0 .. 5), c CLOTH (0 .. 3), s STONES (0 .. 1), h HEAT (0 .. 9), "
            + "d how DULL the stones are (0 .. 9), f how FAST it goes (in fast: 0).", x -> {
                for (int v = 0; v < 10; v++) {
                    truth("w=" + v + "&c=0&s=0&h=0&d=0&f=0", Math.min(v, 5), 0, 0, 0, v < 6);
                    truth("c=" + v + "&w=0&s=0&h=0&d=0&f=0", 0, Math.min(v, 3) * 2, 0, 0, v < 4);
                    truth("s=" + v + "&w=0&c=0&h=0&d=0&f=0", 0, Math.min(v, 1), 0, 0, v < 2);
                    truth("h=" + v + "&w=0&c=0&s=0&d=0&f=0", 0, 0, v, 0, true);
                    truth("d=" + v + "&w=0&c=0&s=0&h=0&f=0", 0, 0, 0, v, true);
                }
                mill(x, "fast 7 w=1;fast 2 f=0;fast 50 f>0;meal 1 f=9;meal 2 f=2;heat 1 f=9;wear 3 f=9");
                due("f is 0 in fast", x.hour(0, 1, 0, 0, 0, 0), 9);
                due("f is FAST in meal", x.hour(0, 1, 0, 0, 0, 1), 1);
                due("f is FAST in meal", x.hour(0, 0, 0, 0, 0, 1), 2);
                due("f is FAST in heat", x.hour(0, 1, 0, 0, 0, 2), 1);
                due("f is FAST in wear", x.hour(0, 1, 0, 0, 0, 3), 3);
            });
    }

    private static void openOnes() {
        holds(3, "At most 5 of ! and ( are open", x -> {
            for (int bits = 0; bits < 32; bits++) {
                StringBuilder signs = new StringBuilder();
                StringBuilder ends = new StringBuilder();
                for (int i = 0; i < 5; i++) {
                    boolean round = (bits >> i & 1) == 1;
                    signs.append(round ? '(' : '!');
                    ends.append(round ? ")" : "");
                }
                fine("fast 1 " + signs + "w=1" + ends);
                early("fast 1 " + signs);
                fault("fast 1 " + signs + "!w=1" + ends, 12);
                fault("fast 1 " + signs + "(w=1)" + ends, 12);
                fault("cool 1;fast 1 c=1|" + signs + "!", 23);
            }
            only("fast 1 !!!!!", TESTS);
            only("fast 1 (((((", TESTS);
            only("fast 1 !(!(!", TESTS);
            only("fast 1 !(!(", OPENS);
            truth("!(!(!w=1))", 1, 0, 0, 0, false);
            truth("(((((w=1)))))", 1, 0, 0, 0, true);
        });
        holds(3, "(a ( till its ) , a ! till its F ends).", x -> {
            fine("fast 1 (((((w=1)))))&(((((w=1)))))|(((((w=1)))))");
            fault("fast 1 (((((w=1)))))&((((((w=1", 26);
            fine("fast 1 !!!!!w=1&!!!!!w=1|!!!!!w=1");
            fault("fast 1 !!!!!w=1|!!!!!!w=1", 21);
            fine("fast 1 (!w=1&((((w=1)))))");
            fault("fast 1 (!w=1&(((((w=1", 17);
            fine("fast 1 !(w=1)&(((((w=1)))))");
            fault("fast 1 !(w=1&((((w=1", 16);
            fine("fast 1 !(w=1&(((w=1))))");
            fine("fast 1 ((((!w=1&!w=1|!w=1))))");
            fault("fast 1 ((((!w=1&!!w=1", 17);
            fine("fast 1 ((((w=1)|(w=1)&!w=1)))&!!!!!w=1");
            fine("fast 1 !!!!(w=1)&!!!!(w=1)");
            fault("fast 1 !!!!(w=1|!w=1", 16);
            fault("fast 1 !(!(w=1)&(((w=1&!w=1", 23);
            fine("fast 1 (((((w=1)))));meal 1 (((((w=1)))))");
            fault("fast 1 (((((w=1)))));meal 1 ((((((w=1", 33);
        });
    }

    private static void faults() {
        holds(3, "FAULT: the place of the first byte with which no MILL can go on", x -> {
            String text = "fast 12 !(w<10|c=2)&s>0;meal 99 f=9;heat 0 h<1;wear 5 d>8;cool 3;edge 45;burn 6";
            fine(text);
            for (int i = 0; i < text.length(); i++) {
                fault(text.substring(0, i) + (char) 0 + text.substring(i + 1), i);
                fault(text.substring(0, i) + (char) 255, i);
                fault(text.substring(0, i) + (char) (text.charAt(i) | 128) + text.substring(i + 1), i);
                fault(text.substring(0, i) + 'x' + text.substring(i), i);
            }
            fault("xcool y", 0);
            fault("cool 1x;yool 1", 6);
            fault("cool 1" + (char) 0, 6);
        });
        holds(3, "(the size, if it ends too early).", x -> {
            String text = "fast 12 !(w<10|c=2)&s>0;cool 30;burn 4";
            int ends = 0;
            for (int size = 0; size < text.length(); size++) {
                String start = text.substring(0, size);
                boolean ended = start.endsWith(")") || start.endsWith("s>0") || start.endsWith("cool 3") || start.endsWith("cool 30");
                ends += ended ? 1 : 0;
                if (ended) {
                    fine(start);
                } else {
                    early(start);
                }
            }
            fine(text);
            due("starts that are MILLS", ends, 4);
        });
    }

    // ---- promise 4

    private static void sixOf(Counted x, int mill, int wind, int setting, int heat, int dull, int... want) {
        for (int what = 0; what < 6; what++) {
            due("hour(" + mill + ", " + wind + ", " + setting + ", " + heat + ", " + dull + ", " + what + ")",
                x.hour(mill, wind, setting, heat, dull, what), want[what]);
        }
    }

    private static void hours() {
        holds(4, "AN HOUR of a MILL by WIND, HEAT, DULL and a SETTING (CLOTH times 2, and STONES: 0 .. 7):", x -> {
            mill(x, "meal 1 c=1;meal 2 c=2;meal 3 c=3;meal 4 s=1");
            int[] want = {0, 4, 1, 5, 2, 6, 3, 7};
            for (int setting = 0; setting < 8; setting++) {
                due("MEAL by SETTING " + setting, x.hour(0, 5, setting, 9, 9, 1), want[setting]);
            }
            mill(x, "meal 1 w=5;meal 2 h=9;meal 4 d=9");
            for (int bits = 0; bits < 8; bits++) {
                due("MEAL by WIND, HEAT, DULL", x.hour(1, bits % 2 * 5, 7, bits / 2 % 2 * 9, bits / 4 * 9, 1), bits);
            }
        });
        holds(4, "FAST: the n of all fast whose E holds, together (99 at most).", x -> {
            mill(x, "fast 98 w<9;fast 1 w=1;fast 2 w=2;fast 99 w=3;fast 0 w=4;meal 1 f=99;meal 2 f>99;meal 4 f=98");
            int[] fast = {98, 99, 99, 99, 98, 98};
            for (int wind = 0; wind < 6; wind++) {
                due("FAST", x.hour(0, wind, 0, 0, 0, 0), fast[wind]);
                due("MEAL by FAST", x.hour(0, wind, 0, 0, 0, 1), fast[wind] == 99 ? 1 : 4);
            }
            mill(x, "cool 1");
            due("none", x.hour(1, 0, 0, 0, 0, 0), 0);
            mill(x, times(7, "fast 99 w<9;") + "fast 99 w<9");
            due("99 eight times", x.hour(2, 0, 0, 0, 0, 0), 99);
            due("and not AWAY", x.hour(2, 0, 0, 0, 0, 5), 0);
            mill(x, "fast 3 h=1;fast 5 d=2;fast 7 c=3;fast 11 s=1");
            due("all that hold", x.hour(3, 0, 7, 1, 2, 0), 26);
            due("those alone", x.hour(3, 0, 6, 0, 2, 0), 12);
        });
        holds(4, "Else MEAL: the n of all meal whose E holds, together;", x -> {
            mill(x, times(9, "meal 99 w=1;") + "meal 99 w>0");
            due("10 times 99", x.hour(0, 1, 0, 0, 0, 1), 990);
            due("99", x.hour(0, 2, 0, 0, 0, 1), 99);
            due("none", x.hour(0, 0, 0, 0, 0, 1), 0);
            mill(x, "meal 0 w<9");
            due("0", x.hour(1, 0, 0, 0, 0, 1), 0);
        });
        holds(4, "AN HOUR of a MILL: what 0 FAST, 1 MEAL (0 if BURNT, -1 if it RUNS AWAY), 2 HEAT then, 3 DULL then, "
            + "4 whether it is BURNT, 5 whether it RUNS AWAY.", x -> {
                mill(x, "fast 8 w=1;fast 9 w=2;meal 6 w<9;heat 2 w<9;wear 3 w<9;edge 8;burn 5");
                sixOf(x, 0, 0, 0, 0, 0, 0, 6, 2, 3, 0, 0);
                sixOf(x, 0, 1, 0, 4, 1, 8, 6, 6, 4, 0, 0);
                sixOf(x, 0, 1, 0, 5, 1, 8, 0, 7, 4, 1, 0);
                sixOf(x, 0, 2, 0, 4, 1, 9, -1, 4, 1, 0, 1);
                sixOf(x, 0, 2, 0, 5, 1, 9, -1, 5, 1, 0, 1);
                sixOf(x, 0, 0, 0, 0, 0, 0, 6, 2, 3, 0, 0);
                due("none is LED by it", x.led(0), -3);
            });
    }

    private static void runningAway() {
        holds(4, "It RUNS AWAY, if FAST is more than edge:", x -> {
            mill(x, "fast 10 w<9;edge 10");
            mill(x, "fast 10 w<9;edge 9");
            mill(x, "fast 10 w<9;edge 11");
            mill(x, "fast 1 w=1;edge 0");
            mill(x, "fast 99 w<9;fast 99 w<9;edge 99");
            due("as much as edge", x.hour(0, 0, 0, 0, 0, 5), 0);
            due("one more", x.hour(1, 0, 0, 0, 0, 5), 1);
            due("one less", x.hour(2, 0, 0, 0, 0, 5), 0);
            due("0 by edge 0", x.hour(3, 0, 0, 0, 0, 5), 0);
            due("1 by edge 0", x.hour(3, 1, 0, 0, 0, 5), 1);
            due("99 at most, by edge 99", x.hour(4, 0, 0, 0, 0, 5), 0);
        });
        holds(4, "nothing is ground, and it stands from then on (nothing is ground any more, HEAT, DULL are as they were).", x -> {
            lead(x, "fast 9 w=1;edge 8;meal 5 w<9;heat 3 w<9;wear 2 w<9");
            due("HEAT as it was", x.hour(0, 1, 0, 4, 7, 2), 4);
            due("DULL as it was", x.hour(0, 1, 0, 4, 7, 3), 7);
            x.go(0, 0);
            due("it RUNS AWAY", x.go(1, 0), -1);
            for (int i = 0; i < 3; i++) {
                due("nothing is ground any more", x.go(0, 0), -1);
                due("HEAT", x.led(2), 3);
                due("DULL", x.led(3), 2);
                due("flour", x.led(4), 5);
                due("it stands", x.led(5), 1);
            }
        });
        holds(4, "If HEAT as it was is burn or more (and it does not RUN AWAY), MEAL is BURNT: it counts nothing.", x -> {
            lead(x, "fast 9 w=1;edge 8;meal 5 w<9;heat 3 w=0;cool 1;burn 4");
            due("less than burn", x.hour(0, 0, 0, 3, 0, 4), 0);
            due("as it was, not as it becomes", x.hour(0, 0, 0, 3, 0, 1), 5);
            due("burn", x.hour(0, 0, 0, 4, 0, 4), 1);
            due("it counts nothing", x.hour(0, 0, 0, 4, 0, 1), 0);
            due("more", x.hour(0, 0, 0, 9, 0, 4), 1);
            due("HEAT goes on", x.hour(0, 2, 0, 4, 0, 2), 3);
            due("RUNS AWAY, so it is not BURNT", x.hour(0, 1, 0, 4, 0, 4), 0);
            due("RUNS AWAY", x.hour(0, 1, 0, 4, 0, 1), -1);
            due("go", x.go(0, 0), 5);
            due("go", x.go(0, 0), 5);
            due("BURNT", x.go(0, 0), 0);
            due("flour", x.led(4), 10);
            due("it does not stand", x.led(5), 0);
            mill(x, "meal 5 w<9;burn 0");
            due("burn 0", x.hour(1, 0, 0, 0, 0, 4), 1);
            mill(x, "meal 5 w<9;burn 10");
            due("burn 10", x.hour(2, 0, 0, 9, 0, 4), 0);
        });
    }

    private static void heatAndDull() {
        holds(4, "HEAT becomes HEAT, and of all heat, together, less cool (0 .. 9);", x -> {
            mill(x, "heat 2 w>0;heat 5 w=2;heat 99 w=3;heat 0 w=4;cool 3");
            due("0 at least", x.hour(0, 0, 0, 2, 0, 2), 0);
            due("to 0", x.hour(0, 0, 0, 3, 0, 2), 0);
            due("to 1", x.hour(0, 0, 0, 4, 0, 2), 1);
            due("less at 9", x.hour(0, 0, 0, 9, 0, 2), 6);
            due("2 less 3 at 0", x.hour(0, 1, 0, 0, 0, 2), 0);
            due("2 and 5 less 3, to 9", x.hour(0, 2, 0, 5, 0, 2), 9);
            due("9 at most", x.hour(0, 2, 0, 6, 0, 2), 9);
            due("at 9, less cool only behind all heat", x.hour(0, 1, 0, 9, 0, 2), 8);
            due("not 9 less 3", x.hour(0, 2, 0, 9, 0, 2), 9);
            due("9 at most", x.hour(0, 3, 0, 0, 0, 2), 9);
            mill(x, "cool 99;heat 99 w=1;heat 1 w=1");
            due("0 at least", x.hour(1, 0, 0, 9, 0, 2), 0);
            due("100 less 99", x.hour(1, 1, 0, 0, 0, 2), 1);
            due("109 less 99", x.hour(1, 1, 0, 9, 0, 2), 9);
        });
        holds(4, "DULL becomes DULL, and of all wear, together (0 .. 9);", x -> {
            mill(x, "wear 2 w>0;wear 5 w=2;wear 99 w=3;cool 3");
            due("as it was; cool is not for DULL", x.hour(0, 0, 0, 0, 0, 3), 0);
            due("as it was", x.hour(0, 0, 0, 0, 9, 3), 9);
            due("2", x.hour(0, 1, 0, 0, 0, 3), 2);
            due("2 and 5, to 9", x.hour(0, 2, 0, 0, 2, 3), 9);
            due("9 at most", x.hour(0, 2, 0, 0, 3, 3), 9);
            due("9 at most", x.hour(0, 3, 0, 0, 0, 3), 9);
            due("HEAT is none of it", x.hour(0, 2, 0, 4, 2, 2), 1);
        });
        holds(4, "all E by HEAT and DULL as they were.", x -> {
            mill(x, "heat 2 h=0;wear 1 d=0;heat 1 d=1;wear 3 h=2;meal 5 h=0;meal 7 h=2;meal 9 d=1");
            sixOf(x, 0, 0, 0, 0, 0, 0, 5, 2, 1, 0, 0);
            sixOf(x, 0, 0, 0, 2, 1, 0, 16, 3, 4, 0, 0);
        });
    }

    private static void hourRefusals() {
        holds(4, "NONE: mill, wind, what;", x -> {
            mill(x, "cool 1");
            mill(x, "cool 2");
            refused(x, -1, "hour", () -> x.hour(2, 0, 0, 0, 0, 0), () -> x.hour(-1, 0, 0, 0, 0, 0),
                () -> x.hour(MIN, 0, 0, 0, 0, 0), () -> x.hour(MAX, 0, 0, 0, 0, 0),
                () -> x.hour(0, 6, 0, 0, 0, 0), () -> x.hour(0, -1, 0, 0, 0, 0), () -> x.hour(0, MIN, 0, 0, 0, 0),
                () -> x.hour(0, MAX, 0, 0, 0, 0), () -> x.hour(0, 0, 0, 0, 0, 6), () -> x.hour(0, 0, 0, 0, 0, -1),
                () -> x.hour(0, 0, 0, 0, 0, MIN), () -> x.hour(0, 0, 0, 0, 0, MAX));
            refused(x, -1, "NONE ahead of BAD", () -> x.hour(2, 0, 8, 10, 10, 0), () -> x.hour(0, 6, -1, 0, 0, 0),
                () -> x.hour(0, 0, 0, 10, 0, 6), () -> x.hour(0, 0, 0, 0, -1, -1));
            due("the last MILL, WIND, what", x.hour(1, 5, 0, 0, 0, 5), 0);
        });
        holds(4, "BAD: setting, heat, dull.", x -> {
            mill(x, "meal 1 w<9");
            refused(x, -2, "hour", () -> x.hour(0, 0, 8, 0, 0, 1), () -> x.hour(0, 0, -1, 0, 0, 1),
                () -> x.hour(0, 0, MIN, 0, 0, 1), () -> x.hour(0, 0, MAX, 0, 0, 1), () -> x.hour(0, 0, 0, 10, 0, 1),
                () -> x.hour(0, 0, 0, -1, 0, 1), () -> x.hour(0, 0, 0, MIN, 0, 1), () -> x.hour(0, 0, 0, MAX, 0, 1),
                () -> x.hour(0, 0, 0, 0, 10, 1), () -> x.hour(0, 0, 0, 0, -1, 1), () -> x.hour(0, 0, 0, 0, MIN, 1),
                () -> x.hour(0, 0, 0, 0, MAX, 1));
            due("the last ones", x.hour(0, 5, 7, 9, 9, 1), 1);
            due("the first ones", x.hour(0, 0, 0, 0, 0, 1), 1);
        });
    }

    // ---- promises 5, 6

    private static void chances(Counted x, int wind, int... want) {
        for (int next = 0; next < 6; next++) {
            due("chance(" + wind + ", " + next + ")", x.chance(wind, next), want[next]);
        }
    }

    private static void winds() {
        holds(5, "WIND: CHANCES of each WIND to be followed by each one, in thousandths, 1000 together "
            + "(at first each is followed by itself).", x -> {
                for (int wind = 0; wind < 6; wind++) {
                    for (int next = 0; next < 6; next++) {
                        due("at first", x.chance(wind, next), wind == next ? 1000 : 0);
                    }
                }
                for (int wind = 0; wind < 6; wind++) {
                    due("wind", x.wind(wind, 10 * wind, 20, 30, 40, 50), 1);
                    int together = 0;
                    for (int next = 0; next < 6; next++) {
                        together += x.chance(wind, next);
                    }
                    due("together", together, 1000);
                }
            });
        holds(5, "CHANCES of a WIND to be followed by 0 .. 5 as told (f the rest to 1000): 1.", x -> {
            due("wind", x.wind(0, 100, 200, 300, 150, 50), 1);
            chances(x, 0, 100, 200, 300, 150, 50, 200);
            chances(x, 1, 0, 1000, 0, 0, 0, 0);
            due("all are the rest", x.wind(0, 0, 0, 0, 0, 0), 1);
            chances(x, 0, 0, 0, 0, 0, 0, 1000);
            due("no rest", x.wind(5, 200, 200, 200, 200, 200), 1);
            chances(x, 5, 200, 200, 200, 200, 200, 0);
            due("a rest of 1", x.wind(5, 999, 0, 0, 0, 0), 1);
            chances(x, 5, 999, 0, 0, 0, 0, 1);
            due("1000 of the first", x.wind(3, 1000, 0, 0, 0, 0), 1);
            chances(x, 3, 1000, 0, 0, 0, 0, 0);
            due("1000 of the last", x.wind(3, 0, 0, 0, 0, 1000), 1);
            chances(x, 3, 0, 0, 0, 0, 1000, 0);
            chances(x, 2, 0, 0, 1000, 0, 0, 0);
            chances(x, 4, 0, 0, 0, 0, 1000, 0);
        });
        holds(5, "NONE;", x -> {
            full(x);
            refused(x, -1, "wind", () -> x.wind(6, 0, 0, 0, 0, 0), () -> x.wind(-1, 0, 0, 0, 0, 0),
                () -> x.wind(MIN, 0, 0, 0, 0, 0), () -> x.wind(MAX, 0, 0, 0, 0, 0));
            refused(x, -1, "NONE ahead of BAD", () -> x.wind(6, -1, 0, 0, 0, 0), () -> x.wind(-1, 600, 600, 0, 0, 0));
        });
        holds(5, "BAD: one is not 0 .. 1000,", x -> {
            full(x);
            for (int place = 0; place < 5; place++) {
                for (int bad : new int[] {-1, 1001, MIN, MAX, -1000, 1 << 30}) {
                    int[] p = new int[5];
                    p[place] = bad;
                    due(bad + " at " + place, x.wind(1, p[0], p[1], p[2], p[3], p[4]), -2);
                    p[(place + 1) % 5] = 500;
                    due(bad + " at " + place + " and 500", x.wind(1, p[0], p[1], p[2], p[3], p[4]), -2);
                }
            }
            due("together 1000, but one is too large", x.wind(1, 1001, -1, 0, 0, 0), -2);
            due("wrapping to 0", x.wind(1, MAX, MAX, 2, 0, 0), -2);
            due("wrapping to 0", x.wind(1, MIN, MIN, 0, 0, 0), -2);
            chances(x, 1, 100, 200, 300, 100, 50, 250);
        });
        holds(5, "together more than 1000.", x -> {
            full(x);
            refused(x, -2, "wind", () -> x.wind(1, 1000, 1, 0, 0, 0), () -> x.wind(1, 0, 0, 0, 1, 1000),
                () -> x.wind(1, 200, 200, 200, 200, 201), () -> x.wind(1, 1000, 1000, 1000, 1000, 1000));
            due("1000 is not", x.wind(1, 200, 200, 200, 201, 199), 1);
            chances(x, 1, 200, 200, 200, 201, 199, 0);
        });
        holds(6, "CHANCE of a WIND to be followed by another one.", x -> {
            x.wind(2, 1, 2, 3, 4, 5);
            chances(x, 2, 1, 2, 3, 4, 5, 985);
            due("by that one, not ahead of it", x.chance(0, 2), 0);
            due("by itself, too", x.chance(5, 5), 1000);
        });
        holds(6, "NONE.", x -> refused(x, -1, "chance", () -> x.chance(6, 0), () -> x.chance(-1, 0), () -> x.chance(0, 6),
            () -> x.chance(0, -1), () -> x.chance(MIN, 0), () -> x.chance(MAX, 0), () -> x.chance(0, MIN),
            () -> x.chance(0, MAX), () -> x.chance(-1, 6), () -> x.chance(1, -6)));
    }

    // ---- promises 7, 8, 9

    private static void stands(Counted x, int... want) {
        for (int what = 0; what < 6; what++) {
            due("led(" + what + ")", x.led(what), want[what]);
        }
    }

    private static void leading() {
        holds(7, "A MILL is LED from now on, anew (the same one, too): 1.", x -> {
            lead(x, "meal 5 w<9;heat 2 w<9;wear 1 w<9;fast 9 w=5;edge 8");
            mill(x, "meal 1 w<9");
            x.go(0, 0);
            x.go(5, 0);
            stands(x, 0, 2, 2, 1, 5, 1);
            due("the same one", x.lead(0), 1);
            stands(x, 0, 0, 0, 0, 0, 0);
            due("it goes again", x.go(0, 0), 5);
            due("another one", x.lead(1), 1);
            stands(x, 1, 0, 0, 0, 0, 0);
            due("by that one", x.go(0, 0), 1);
            due("back", x.lead(0), 1);
            stands(x, 0, 0, 0, 0, 0, 0);
        });
        holds(7, "NONE.", x -> {
            due("no MILL yet", x.lead(0), -1);
            full(x);
            refused(x, -1, "lead", () -> x.lead(2), () -> x.lead(-1), () -> x.lead(MIN), () -> x.lead(MAX), () -> x.lead(5));
            due("the last one", x.lead(1), 1);
        });
        holds(8, "it has HEAT, DULL, the HOUR NOW (0 .. 999), flour that it ground, all 0 as it begins; it may have RUN AWAY.", x -> {
            lead(x, "meal 99 w=1;heat 4 w=1;wear 4 w=1;fast 9 w=5;edge 8");
            stands(x, 0, 0, 0, 0, 0, 0);
            x.go(1, 0);
            x.go(1, 0);
            x.go(1, 0);
            stands(x, 0, 3, 9, 9, 297, 0);
            x.rule(0, 0);
            for (int i = 0; i < 33; i++) {
                due("30 HOURS", x.run(0, 30, 0, 1), 2970);
            }
            stands(x, 0, 993, 9, 9, 297 + 33 * 2970, 0);
            due("6 HOURS", x.run(0, 6, 0, 5), 0);
            stands(x, 0, 999, 9, 9, 297 + 33 * 2970, 1);
            due("999 is the last", x.go(0, 0), -13);
            stands(x, 0, 999, 9, 9, 297 + 33 * 2970, 1);
        });
        holds(8, "Of the MILL that is LED what 0 which, 1 NOW, 2 HEAT, 3 DULL, 4 flour, 5 whether it has RUN AWAY.", x -> {
            mill(x, "cool 1");
            lead(x, "meal 7 w=1;heat 3 w=1;wear 2 w=1;cool 1;fast 9 w=5;edge 8");
            stands(x, 1, 0, 0, 0, 0, 0);
            x.go(1, 0);
            stands(x, 1, 1, 2, 2, 7, 0);
            x.go(0, 0);
            stands(x, 1, 2, 1, 2, 7, 0);
            x.go(5, 0);
            stands(x, 1, 3, 1, 2, 7, 1);
        });
        holds(8, "NONE;", x -> {
            refused(x, -1, "ahead of STATE", () -> x.led(6), () -> x.led(-1), () -> x.led(MIN), () -> x.led(MAX));
            full(x);
            refused(x, -1, "led", () -> x.led(6), () -> x.led(-1), () -> x.led(MIN), () -> x.led(MAX));
        });
        holds(8, "STATE.", x -> {
            mill(x, "cool 1");
            refused(x, -3, "led", () -> x.led(0), () -> x.led(1), () -> x.led(2), () -> x.led(3), () -> x.led(4), () -> x.led(5));
            x.lead(0);
            due("led(0)", x.led(0), 0);
        });
    }

    private static void going() {
        holds(9, "It goes AN HOUR by WIND and SETTING (NOW is one more): MEAL, as of hour()", x -> {
            lead(x, "meal 3 w>1&c<3;meal 9 s=1&d<4;heat 2 c>1;wear 1 s=1;cool 1;burn 3;fast 9 w=5&c=3;edge 8");
            int[] winds = {0, 5, 2, 3, 3, 4, 1, 0, 0, 2};
            int[] settings = {0, 1, 7, 6, 7, 7, 4, 3, 1, 5};
            for (int i = 0; i < 10; i++) {
                int want = x.hour(0, winds[i], settings[i], x.led(2), x.led(3), 1);
                int heat = x.hour(0, winds[i], settings[i], x.led(2), x.led(3), 2);
                int dull = x.hour(0, winds[i], settings[i], x.led(2), x.led(3), 3);
                int flour = x.led(4);
                due("go", x.go(winds[i], settings[i]), want);
                stands(x, 0, i + 1, heat, dull, flour + want, 0);
            }
            due("flour", x.led(4), 30);
        });
        holds(9, "(-1 also if it has RUN AWAY before: NOW is one more then, too).", x -> {
            lead(x, "meal 3 w<5;fast 9 w=5;edge 8");
            x.go(1, 1);
            due("RUNS AWAY", x.go(5, 0), -1);
            for (int now = 3; now < 9; now++) {
                due("before", x.go(0, 0), -1);
                stands(x, 0, now, 0, 0, 3, 1);
            }
        });
        holds(9, "-11: NONE;", x -> {
            refused(x, -11, "ahead of all", () -> x.go(6, 8), () -> x.go(-1, 0), () -> x.go(MIN, MIN), () -> x.go(MAX, 0));
            full(x);
            refused(x, -11, "go", () -> x.go(6, 0), () -> x.go(-1, 0), () -> x.go(MIN, 0), () -> x.go(MAX, 0));
        });
        holds(9, "-12: BAD;", x -> {
            refused(x, -12, "ahead of STATE", () -> x.go(0, 8), () -> x.go(5, -1));
            full(x);
            refused(x, -12, "go", () -> x.go(0, 8), () -> x.go(5, -1), () -> x.go(0, MIN), () -> x.go(0, MAX));
            due("the last ones", x.go(5, 7), 0);
        });
        holds(9, "-13: STATE (also at HOUR 999).", x -> {
            mill(x, "meal 1 w<9");
            x.rule(0, 0);
            refused(x, -13, "none LED", () -> x.go(0, 0), () -> x.go(5, 7));
            x.lead(0);
            for (int i = 0; i < 33; i++) {
                x.run(0, 30, 0, 0);
            }
            due("to 998", x.run(0, 8, 0, 0), 8);
            due("at 998", x.go(0, 0), 1);
            due("NOW", x.led(1), 999);
            refused(x, -13, "at 999", () -> x.go(0, 0), () -> x.go(5, 7));
            refused(x, -12, "BAD ahead of STATE", () -> x.go(0, 8));
            refused(x, -11, "NONE ahead of STATE", () -> x.go(6, 0));
            due("anew", x.lead(0), 1);
            due("at 0", x.go(0, 0), 1);
        });
    }
}
