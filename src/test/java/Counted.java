/** A MillWind whose calls are counted: an object is used for at most 512 of them, nothing is promised behind that. */
final class Counted {
    private static final int MOST = 512;
    private final MillWind x = new MillWind();
    private int calls;

    private MillWind called() {
        calls++;
        if (calls > MOST) {
            throw new IllegalStateException("a test makes more than " + MOST + " calls of one object");
        }
        return x;
    }

    /** How many calls it may still have. */
    int left() {
        return MOST - calls;
    }

    int feed(long w, int n) {
        return called().feed(w, n);
    }

    int mill() {
        return called().mill();
    }

    int hour(int mill, int wind, int setting, int heat, int dull, int what) {
        return called().hour(mill, wind, setting, heat, dull, what);
    }

    int wind(int wind, int a, int b, int c, int d, int e) {
        return called().wind(wind, a, b, c, d, e);
    }

    int chance(int wind, int next) {
        return called().chance(wind, next);
    }

    int lead(int mill) {
        return called().lead(mill);
    }

    int led(int what) {
        return called().led(what);
    }

    int go(int wind, int setting) {
        return called().go(wind, setting);
    }

    int rule(int kind, int v) {
        return called().rule(kind, v);
    }

    int row(int rule, int setting) {
        return called().row(rule, setting);
    }

    int sets(int rule, int t, int left, int wind, int before) {
        return called().sets(rule, t, left, wind, before);
    }

    long mean(int rule, int n, int wind, int what) {
        return called().mean(rule, n, wind, what);
    }

    long best(int n, int wind, int what) {
        return called().best(n, wind, what);
    }

    int dress(int n, int wind) {
        return called().dress(n, wind);
    }

    int day(int wind, int setting) {
        return called().day(wind, setting);
    }

    int judged(int what) {
        return called().judged(what);
    }

    int order(int hours, int due, int price) {
        return called().order(hours, due, price);
    }

    int take() {
        return called().take();
    }

    int late(int orders) {
        return called().late(orders);
    }

    int ridge(int a, int b, int c, int wind, int what) {
        return called().ridge(a, b, c, wind, what);
    }

    long run(int rule, int n, int seed, int wind) {
        return called().run(rule, n, seed, wind);
    }

    int act(int rule, int act, int x) {
        return called().act(rule, act, x);
    }

    int trace(int i) {
        return called().trace(i);
    }

    int as(int rule, int k) {
        return called().as(rule, k);
    }

    int image() {
        return called().image();
    }

    int undo() {
        return called().undo();
    }

    int count(int what) {
        return called().count(what);
    }
}
