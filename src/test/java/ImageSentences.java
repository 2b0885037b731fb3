/** The sentences of promises 26 to 28, and that of REFUSALS: THE IMAGE, counts. */
final class ImageSentences extends Sentences {
    private static final String HOT = "meal 9 c=3;heat 9 c=3;meal 4 c=0;burn 5";
    private static final String COLD = "meal 2 c=1;cool 2;fast 9 w=5;edge 8";

    private ImageSentences() {
    }

    static void all() {
        images();
        parts();
        undo();
        counts();
        refusals();
    }

    // ---- promises 26, 27

    private static void images() {
        holds(26, "THE IMAGE is taken: how many MILLS there are.", x -> {
            due("of a new object", x.image(), 0);
            for (int mills = 1; mills <= 5; mills++) {
                mill(x, "cool " + mills);
                due("image()", x.image(), mills);
                due("again", x.image(), mills);
            }
            due("nothing else is told or changed", x.count(0), 5);
            read(x, "cool 6x");
            due("all of them", x.undo(), 5);
        });
        holds(26, "THE IMAGE: all that there is (but THE IMAGE and THE TRACE).", x -> {
            full(x);
            String before = seen(x, false);
            due("image()", x.image(), 2);
            if (!before.equals(seen(x, false))) {
                due("image() changed something", 1, 0);
            }
            change(x);
            due("a TRACE of its own", x.count(5), 3);
            due("undo()", x.undo(), 2);
            if (!before.equals(seen(x, false))) {
                due("all is as it was", 1, 0);
            }
            due("THE TRACE is not undone", x.count(5), 3);
            due("THE TRACE is not undone", x.trace(0), 31);
            due("nor is THE IMAGE", x.undo(), 2);
        });
    }

    /** Something else of all. */
    private static void change(Counted x) {
        x.feed('p', 1);
        x.mill();
        mill(x, COLD);
        x.lead(2);
        x.go(0, 3);
        x.go(0, 0);
        x.go(5, 3);
        x.wind(1, 0, 0, 0, 0, 0);
        x.wind(5, 1, 2, 3, 4, 5);
        x.row(6, 1);
        x.rule(6, 2);
        x.row(7, 2);
        x.day(-1, 0);
        x.day(5, 5);
        x.order(1, 1, 99);
        x.act(3, 1, 1);
    }

    private static void parts() {
        holds(27, "All is as THE IMAGE: how many MILLS.", x -> {
            due("nothing", x.image(), 0);
            full(x);
            due("undo() to nothing", x.undo(), 0);
            for (int what = 0; what < 5; what++) {
                due("count(" + what + ")", x.count(what), 0);
                due("none LED", x.led(what), -3);
                for (int next = 0; next < 6; next++) {
                    due("CHANCES", x.chance(what, next), what == next ? 1000 : 0);
                }
            }
            due("no ORDERS", x.late(1), -2);
            due("THE TAPE is empty", x.mill(), -10);
            due("a MILL anew", read(x, COLD), 0);
            due("of its own", x.hour(0, 0, 2, 9, 0, 2), 7);
            due("a TOLD RULE anew", x.rule(6, 5), 0);
            due("its ROW is its own", x.row(0, 1), 1);
            due("an ORDER anew", x.order(20, 19, 1), 0);
            due("of its own", x.late(1), 1);
            due("a DAY anew", x.day(0, 2), 1);
            x.lead(0);
            due("of its own", x.judged(1), 2);
            due("undo() again", x.undo(), 0);
        });
        holds(27, "All is as THE IMAGE:", x -> {
            // MILLS, that which is LED, what is known of them
            lead(x, HOT);
            due("of HOT", x.best(2, 0, 1), 13000);
            x.image();
            lead(x, COLD);
            due("of COLD", x.best(2, 0, 1), 4000);
            due("COLD", x.hour(1, 0, 2, 0, 0, 1), 2);
            due("one MILL", x.undo(), 1);
            due("of HOT", x.best(2, 0, 1), 13000);
            due("the other is gone", x.lead(1), -1);
            due("the other is gone", x.hour(1, 0, 2, 0, 0, 1), -1);
            due("another one", read(x, "meal 7 c=1"), 1);
            due("by its own text", x.hour(1, 0, 2, 0, 0, 1), 7);
            x.lead(1);
            due("by its own text", x.best(2, 0, 1), 14000);
            x.wind(0, 0, 1000, 0, 0, 0);
            due("LED anew", x.undo(), 1);
            due("which", x.led(0), 0);
            due("CHANCES", x.chance(0, 0), 1000);
            due("FAULTS are forgotten", read(x, "meal 7 c=1&"), -21);
            due("then a MILL", read(x, COLD), 1);
            due("by its own text", x.hour(1, 0, 2, 0, 0, 1), 2);
        });
        holds(27, "All is as THE IMAGE: how many MILLS", x -> {
            // THE TAPE's bytes, ROWS, a DAY, ORDERS as they were, not as many alone
            x.rule(6, 0);
            x.row(0, 3);
            x.row(0, 4);
            x.order(5, 9, 7);
            x.order(5, 8, 7);
            lead(x, "meal 9 c=3&w=1;heat 9 c=3;meal 4 c=0;burn 5");
            x.day(1, 6);
            x.day(0, 0);
            feed(x, "cool ");
            x.image();
            feed(x, "7");
            due("cool 7", x.mill(), 1);
            feed(x, "burnt");
            x.row(0, 5);
            x.day(-1, 0);
            x.day(0, 0);
            x.day(2, 6);
            x.order(1, 1, 1);
            due("changed", x.take(), 5);
            due("undo()", x.undo(), 1);
            feed(x, "5");
            due("cool 5", x.mill(), 1);
            due("by it", x.hour(1, 0, 0, 9, 0, 2), 4);
            due("the ROW's third is its first", x.sets(0, 2, 1, 0, 0), 3);
            due("the ROW's second", x.sets(0, 1, 1, 0, 0), 4);
            due("the DAY", x.judged(0), 1);
            due("its FLOUR", x.judged(1), 9);
            due("ORDERS: due first, first", x.late(3), 1);
            due("a third", x.late(4), -2);
        });
    }

    private static void undo() {
        holds(27, "STATE: there is none.", x -> {
            refused(x, -3, "a new object", x::undo, x::undo);
            full(x);
            refused(x, -3, "something of all", x::undo);
            due("image()", x.image(), 2);
            due("then there is one", x.undo(), 2);
            due("and it stays", x.undo(), 2);
        });
        holds(27, "how many MILLS.", x -> {
            mill(x, "cool 1");
            due("one", x.image(), 1);
            mill(x, "cool 2");
            mill(x, "cool 3");
            due("the latest IMAGE alone", x.image(), 3);
            mill(x, "cool 4");
            due("three", x.undo(), 3);
            due("three", x.undo(), 3);
            due("the fourth is another", read(x, "cool 9"), 3);
            due("by it", x.hour(3, 0, 0, 9, 0, 2), 0);
            due("the third as it was", x.hour(2, 0, 0, 9, 0, 2), 6);
        });
    }

    // ---- promise 28

    private static void counts() {
        holds(28, "0 MILLS, 1 RULES, 2 HOURS of the DAY, 3 ORDERS, 4 bytes of THE TAPE, "
            + "5 bodies that ran in the latest act() (all, kept or not).", x -> {
                for (int what = 0; what < 6; what++) {
                    due("none", x.count(what), 0);
                }
                mill(x, "cool 1");
                for (int i = 0; i < 2; i++) {
                    x.rule(5, 0);
                }
                for (int i = 0; i < 3; i++) {
                    x.day(0, 0);
                }
                for (int i = 0; i < 4; i++) {
                    x.order(1, 1, 1);
                }
                x.feed(0, 5);
                x.act(0, 2, 1);
                int[] want = {1, 2, 3, 4, 5, 8};
                for (int what = 0; what < 6; what++) {
                    due("count(" + what + ")", x.count(what), want[what]);
                }
                x.act(0, 0, 1);
                due("of the latest act()", x.count(5), 2);
                for (int i = 1; i < 5; i++) {
                    x.mill();
                    mill(x, "cool 1");
                }
                for (int i = 2; i < 10; i++) {
                    x.rule(5, 0);
                }
                for (int i = 3; i < 10; i++) {
                    x.day(0, 0);
                }
                x.order(1, 1, 1);
                x.order(1, 1, 1);
                feed(x, times(120, "x"));
                int[] most = {5, 10, 10, 6, 120, 2};
                for (int what = 0; what < 6; what++) {
                    due("the most, count(" + what + ")", x.count(what), most[what]);
                }
            });
        holds(28, "NONE.", x -> {
            refused(x, -1, "a new object", () -> x.count(6), () -> x.count(-1), () -> x.count(MIN), () -> x.count(MAX));
            full(x);
            refused(x, -1, "count", () -> x.count(6), () -> x.count(-1), () -> x.count(MIN), () -> x.count(MAX));
        });
    }

    // ---- what all promises have in common

    private static void refusals() {
        holds(28, "REFUSALS, of several the first one told: NONE there is no such MILL, RULE, ORDER, WIND, KIND, what, i;", x -> {
            // on a new object all are missing: NONE is told ahead of BAD and STATE, whatever the rest is
            refused(x, -1, "NONE", () -> x.hour(0, 9, 9, 99, 99, 9), () -> x.wind(9, -1, 0, 0, 0, 0), () -> x.chance(9, 9), () -> x.lead(0),
                () -> x.led(9), () -> x.rule(9, 9), () -> x.row(0, 9), () -> x.sets(0, 99, 99, 9, 9), () -> x.dress(9, 9),
                () -> x.day(9, 9), () -> x.judged(9), () -> x.ridge(0, 0, 0, 9, 9), () -> x.trace(0), () -> x.as(0, 9), () -> x.count(9));
            refused(x, -11, "NONE of go", () -> x.go(9, 9));
        });
        holds(28, "BAD a number is not as told;", x -> {
            x.rule(6, 0);
            refused(x, -2, "BAD, ahead of STATE", () -> x.feed(0, 9), () -> x.wind(0, 1001, 0, 0, 0, 0), () -> x.rule(0, 8), () -> x.row(0, 8),
                () -> x.sets(0, 10, 1, 0, 0), () -> x.dress(5, 0), () -> x.day(0, 8), () -> x.order(0, 0, 0), () -> x.late(1));
            refused(x, -12, "BAD of go", () -> x.go(0, 8));
        });
        holds(28, "STATE as told (no MILL is LED);", x -> {
            mill(x, "cool 1");
            x.rule(0, 0);
            refused(x, -3, "STATE", () -> x.led(0), () -> x.row(0, 0), () -> x.sets(0, 0, 1, 0, 0), () -> x.dress(1, 0),
                () -> x.judged(0), x::undo);
            refused(x, -13, "STATE of go", () -> x.go(0, 0));
            refused(x, NO, "NO", () -> x.mean(0, 1, 0, 0), () -> x.best(1, 0, 0), () -> x.run(0, 1, 0, 0));
        });
        holds(28, "FULL. They change nothing.", x -> {
            for (int i = 0; i < 10; i++) {
                x.rule(6, i % 8);
                x.row(0, i % 8);
                x.day(i % 6, i % 8);
            }
            for (int i = 0; i < 6; i++) {
                x.order(i + 1, 10 + i, i);
            }
            for (int i = 0; i < 5; i++) {
                mill(x, "meal " + i + " w<9");
            }
            x.lead(4);
            feed(x, times(120, ";"));
            refused(x, -4, "FULL", () -> x.feed(0, 1), x::mill, () -> x.rule(6, 7), () -> x.row(0, 7), () -> x.day(5, 7), () -> x.order(20, 99, 99));
            due("RULES", x.count(1), 10);
            due("THE DAY", x.judged(1), 40);
            due("the ROW", x.sets(0, 9, 1, 0, 0), 1);
            due("the last RULE", x.as(9, 6), 1);
        });
    }
}
