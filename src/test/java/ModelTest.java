import java.util.ArrayList;
import java.util.HashMap;
import java.util.List;
import java.util.Map;
import java.util.Random;
import java.util.TreeSet;

/**
 * Runs of calls, drawn by fixed seeds, on a MillWind and on a plain model of the document that is
 * written another way (texts read anew each hour, no tables, rules as real classes): all answers must be the same.
 */
public final class ModelTest {
    private static final int RUNS = 700, MOST_AT_ONCE = 122, LAST_ONES = 124;

    // ---- the model

    static class Rule {
        final Model m;
        final int i;
        final int v;

        Rule(Model m, int i, int v) {
            this.m = m;
            this.i = i;
            this.v = v;
        }

        int setting(int t, int left, int wind, int before, int heat, int dull) {
            return 0;
        }

        int sets(int x) {
            m.trace.add(1);
            return x + i;
        }

        int turns(int x) {
            m.trace.add(2);
            return sets(x) - v;
        }

        int tells(int x) {
            m.trace.add(3);
            return turns(x) * 2;
        }
    }

    static class Fixed extends Rule {
        Fixed(Model m, int i, int v) {
            super(m, i, v);
        }

        @Override int setting(int t, int left, int wind, int before, int heat, int dull) {
            return v;
        }

        @Override int sets(int x) {
            m.trace.add(11);
            return super.sets(x * 3);
        }
    }

    static final class Sign extends Rule {
        Sign(Model m, int i, int v) {
            super(m, i, v);
        }

        @Override int setting(int t, int left, int wind, int before, int heat, int dull) {
            int most = -1;
            int which = 0;
            for (int cloth = 3; cloth >= 0; cloth--) {
                int[] h = m.hourOf(m.led, before, 2 * cloth + v % 2, heat, dull);
                if (h[4] == 0 && h[5] == 0 && h[1] >= most) {
                    most = h[1];
                    which = 2 * cloth + v % 2;
                }
            }
            return which;
        }

        @Override int tells(int x) {
            m.trace.add(21);
            return super.tells(x) ^ 7;
        }
    }

    static class Watch extends Rule {
        Watch(Model m, int i, int v) {
            super(m, i, v);
        }

        @Override int setting(int t, int left, int wind, int before, int heat, int dull) {
            int most = -1;
            int which = 0;
            for (int s = 7; s >= 0; s--) {
                int[] h = m.hourOf(m.led, wind, s, heat, dull);
                if (h[4] == 0 && h[5] == 0 && h[1] >= most) {
                    most = h[1];
                    which = s;
                }
            }
            return which;
        }

        @Override int turns(int x) {
            m.trace.add(31);
            return -super.turns(x);
        }
    }

    static class Best extends Watch {
        Best(Model m, int i, int v) {
            super(m, i, v);
        }

        @Override int setting(int t, int left, int wind, int before, int heat, int dull) {
            return (int) m.bestOf(left > 3 ? 3 : left, wind, heat, dull)[0];
        }

        @Override int tells(int x) {
            m.trace.add(41);
            int above = super.tells(x - 1);
            return above + sets(2);
        }
    }

    static final class Safe extends Best {
        Safe(Model m, int i, int v) {
            super(m, i, v);
        }

        @Override int setting(int t, int left, int wind, int before, int heat, int dull) {
            long most = -1;
            int which = 0;
            for (int s = 0; s < 8; s++) {
                boolean safe = true;
                for (int w = 0; w < 6; w++) {
                    safe &= w > v || m.hourOf(m.led, w, s, heat, dull)[5] == 0;
                }
                long worth = m.worth(left > 3 ? 3 : left, wind, s, heat, dull);
                if (safe && worth > most) {
                    most = worth;
                    which = s;
                }
            }
            return which;
        }

        @Override int sets(int x) {
            m.trace.add(51);
            return super.sets(x) ^ i;
        }
    }

    static final class Told extends Fixed {
        List<Integer> row = new ArrayList<>();

        Told(Model m, int i, int v) {
            super(m, i, v);
        }

        @Override int setting(int t, int left, int wind, int before, int heat, int dull) {
            return row.isEmpty() ? super.setting(t, left, wind, before, heat, dull) : row.get(t % row.size());
        }

        @Override int turns(int x) {
            m.trace.add(61);
            return super.turns(x) + v;
        }
    }

    static final class Model {
        List<String> mills = new ArrayList<>();
        String tape = "";
        int[][] chances = new int[6][6];
        String led;
        int ledNumber = -1, now, heat, dull, flour;
        boolean away;
        List<Rule> rules = new ArrayList<>();
        List<int[]> day = new ArrayList<>();
        List<int[]> orders = new ArrayList<>();
        List<Integer> trace = new ArrayList<>();
        Model image;
        Map<Long, long[]> bests = new HashMap<>();
        Map<String, int[]> hours = new HashMap<>();

        Model() {
            for (int i = 0; i < 6; i++) {
                chances[i][i] = 1000;
            }
        }

        Rule make(int kind, int i, int v) {
            switch (kind) {
                case 0: return new Rule(this, i, v);
                case 1: return new Fixed(this, i, v);
                case 2: return new Sign(this, i, v);
                case 3: return new Watch(this, i, v);
                case 4: return new Best(this, i, v);
                case 5: return new Safe(this, i, v);
                default: return new Told(this, i, v);
            }
        }

        static int kindOf(Rule r) {
            return r instanceof Safe ? 5 : r instanceof Best ? 4 : r instanceof Watch ? 3 : r instanceof Told ? 6
                : r instanceof Fixed ? 1 : r instanceof Sign ? 2 : 0;
        }

        void take(Model o) {
            mills = new ArrayList<>(o.mills);
            tape = o.tape;
            for (int i = 0; i < 6; i++) {
                chances[i] = o.chances[i].clone();
            }
            led = o.led;
            ledNumber = o.ledNumber;
            now = o.now;
            heat = o.heat;
            dull = o.dull;
            flour = o.flour;
            away = o.away;
            rules = new ArrayList<>();
            for (Rule r : o.rules) {
                Rule copy = make(kindOf(r), r.i, r.v);
                if (r instanceof Told) {
                    ((Told) copy).row = new ArrayList<>(((Told) r).row);
                }
                rules.add(copy);
            }
            day = new ArrayList<>(o.day);
            orders = new ArrayList<>(o.orders);
        }

        // an E is read from its text each time
        private String text;
        private int at;
        private int[] signs;

        boolean e(String text, int... signs) {
            this.text = text;
            this.at = 0;
            this.signs = signs;
            return any();
        }

        private boolean any() {
            boolean x = all();
            if (at < text.length() && text.charAt(at) == '|') {
                at++;
                boolean y = any();
                return x || y;
            }
            return x;
        }

        private boolean all() {
            boolean x = one();
            if (at < text.length() && text.charAt(at) == '&') {
                at++;
                boolean y = all();
                return x && y;
            }
            return x;
        }

        private boolean one() {
            char c = text.charAt(at++);
            if (c == '!') {
                return !one();
            }
            if (c == '(') {
                boolean x = any();
                at++;
                return x;
            }
            int value = signs["wcshdf".indexOf(c)];
            char side = text.charAt(at++);
            int from = at;
            while (at < text.length() && Character.isDigit(text.charAt(at))) {
                at++;
            }
            int n = Integer.parseInt(text.substring(from, at));
            return side == '<' ? value < n : side == '=' ? value == n : value > n;
        }

        int sum(String mill, String word, int... signs) {
            int sum = 0;
            for (String clause : mill.split(";")) {
                String[] parts = clause.split(" ");
                if (parts[0].equals(word) && e(parts[2], signs)) {
                    sum += Integer.parseInt(parts[1]);
                }
            }
            return sum;
        }

        int last(String mill, String word, int without) {
            int n = without;
            for (String clause : mill.split(";")) {
                if (clause.startsWith(word)) {
                    n = Integer.parseInt(clause.split(" ")[1]);
                }
            }
            return n;
        }

        /** fast, meal, heat, dull, burnt, away. */
        int[] hourOf(String mill, int wind, int setting, int heat, int dull) {
            return hours.computeIfAbsent(mill + " / " + wind + setting + heat + dull, k -> reckon(mill, wind, setting, heat, dull));
        }

        int[] reckon(String mill, int wind, int setting, int heat, int dull) {
            int c = setting >> 1;
            int s = setting & 1;
            int fast = sum(mill, "fast", wind, c, s, heat, dull, 0);
            fast = fast > 99 ? 99 : fast;
            if (fast > last(mill, "edge", 99)) {
                return new int[] {fast, -1, heat, dull, 0, 1};
            }
            int meal = sum(mill, "meal", wind, c, s, heat, dull, fast);
            int hot = heat + sum(mill, "heat", wind, c, s, heat, dull, fast) - last(mill, "cool", 0);
            int blunt = dull + sum(mill, "wear", wind, c, s, heat, dull, fast);
            boolean burnt = heat >= last(mill, "burn", 99);
            return new int[] {fast, burnt ? 0 : meal, hot < 0 ? 0 : hot > 9 ? 9 : hot, blunt > 9 ? 9 : blunt, burnt ? 1 : 0, 0};
        }

        long worth(int n, int wind, int s, int heat, int dull) {
            int[] h = hourOf(led, wind, s, heat, dull);
            if (h[5] == 1) {
                return 0;
            }
            long behind = 0;
            for (int w = 0; w < 6 && n > 1; w++) {
                if (chances[wind][w] > 0) {
                    behind += chances[wind][w] * bestOf(n - 1, w, h[2], h[3])[1];
                }
            }
            return h[1] * 1000L + behind / 1000;
        }

        /** setting, worth. */
        long[] bestOf(int n, int wind, int heat, int dull) {
            long key = ((n * 10L + wind) * 10 + heat) * 10 + dull;
            long[] known = bests.get(key);
            if (known != null) {
                return known;
            }
            long[] best = {0, -1};
            for (int s = 0; s < 8; s++) {
                long worth = worth(n, wind, s, heat, dull);
                if (worth > best[1]) {
                    best = new long[] {s, worth};
                }
            }
            bests.put(key, best);
            return best;
        }

        /** mean, away; dressed in hour k. */
        long[] meanOf(Rule r, int t, int n, int wind, int before, int heat, int dull, int k) {
            if (t == n) {
                return new long[] {0, 0};
            }
            int[] h = {0, 0, 0, 0, 0, 0};
            if (t != k) {
                h = hourOf(led, wind, r.setting(t, n - t, wind, before, heat, dull), heat, dull);
            }
            if (h[5] == 1) {
                return new long[] {0, 1000000};
            }
            long mean = 0;
            long gone = 0;
            for (int w = 0; w < 6; w++) {
                if (chances[wind][w] > 0) {
                    long[] behind = meanOf(r, t + 1, n, w, wind, h[2], h[3], k);
                    mean += chances[wind][w] * behind[0];
                    gone += chances[wind][w] * behind[1];
                }
            }
            return new long[] {h[1] * 1000L + mean / 1000, gone / 1000};
        }

        // ---- the calls

        boolean no(int x, int size) {
            return x < 0 || x >= size;
        }

        int feed(long w, int n) {
            if (n < 1 || n > 8) {
                return -2;
            }
            if (tape.length() + n > 120) {
                return -4;
            }
            for (int i = n - 1; i >= 0; i--) {
                tape += (char) (w >> 8 * i & 255);
            }
            return tape.length();
        }

        int mill() {
            if (mills.size() == 5) {
                return -4;
            }
            String read = tape;
            tape = "";
            int fault = faultOf(read);
            if (fault >= 0) {
                return -10 - fault;
            }
            mills.add(read);
            return mills.size() - 1;
        }

        int hour(int mill, int wind, int setting, int heat, int dull, int what) {
            if (no(mill, mills.size()) || no(wind, 6) || no(what, 6)) {
                return -1;
            }
            if (no(setting, 8) || no(heat, 10) || no(dull, 10)) {
                return -2;
            }
            return hourOf(mills.get(mill), wind, setting, heat, dull)[what];
        }

        int wind(int wind, int a, int b, int c, int d, int e) {
            if (no(wind, 6)) {
                return -1;
            }
            int[] row = {a, b, c, d, e, 1000};
            for (int i = 0; i < 5; i++) {
                if (no(row[i], 1001)) {
                    return -2;
                }
                row[5] -= row[i];
            }
            if (row[5] < 0) {
                return -2;
            }
            chances[wind] = row;
            return 1;
        }

        int chance(int wind, int next) {
            return no(wind, 6) || no(next, 6) ? -1 : chances[wind][next];
        }

        int lead(int mill) {
            if (no(mill, mills.size())) {
                return -1;
            }
            led = mills.get(mill);
            ledNumber = mill;
            now = heat = dull = flour = 0;
            away = false;
            return 1;
        }

        int led(int what) {
            int[] all = {ledNumber, now, heat, dull, flour, away ? 1 : 0};
            return no(what, 6) ? -1 : led == null ? -3 : all[what];
        }

        int go(int wind, int setting) {
            if (no(wind, 6)) {
                return -11;
            }
            if (no(setting, 8)) {
                return -12;
            }
            if (led == null || now == 999) {
                return -13;
            }
            now++;
            if (away) {
                return -1;
            }
            int[] h = hourOf(led, wind, setting, heat, dull);
            away = h[5] == 1;
            heat = h[2];
            dull = h[3];
            flour += Math.max(0, h[1]);
            return h[1];
        }

        int rule(int kind, int v) {
            if (no(kind, 7)) {
                return -1;
            }
            if (no(v, 8)) {
                return -2;
            }
            if (rules.size() == 10) {
                return -4;
            }
            rules.add(make(kind, rules.size(), v));
            return rules.size() - 1;
        }

        int row(int rule, int setting) {
            if (no(rule, rules.size())) {
                return -1;
            }
            if (no(setting, 8)) {
                return -2;
            }
            if (!(rules.get(rule) instanceof Told)) {
                return -3;
            }
            List<Integer> row = ((Told) rules.get(rule)).row;
            if (row.size() == 10) {
                return -4;
            }
            row.add(setting);
            return row.size();
        }

        int sets(int rule, int t, int left, int wind, int before) {
            if (no(rule, rules.size()) || no(wind, 6) || no(before, 6)) {
                return -1;
            }
            if (no(t, 10) || no(left - 1, 6)) {
                return -2;
            }
            return led == null ? -3 : rules.get(rule).setting(t, left, wind, before, heat, dull);
        }

        long mean(int rule, int n, int wind, int what) {
            if (no(rule, rules.size()) || no(n - 1, 6) || no(wind, 6) || no(what, 2) || led == null) {
                return Long.MIN_VALUE;
            }
            return away ? 0 : meanOf(rules.get(rule), 0, n, wind, wind, heat, dull, -1)[what];
        }

        long best(int n, int wind, int what) {
            if (no(n - 1, 6) || no(wind, 6) || no(what, 3) || led == null) {
                return Long.MIN_VALUE;
            }
            if (away) {
                return 0;
            }
            long[] best = bestOf(n, wind, heat, dull);
            if (what < 2) {
                return best[what];
            }
            TreeSet<Long> fixed = new TreeSet<>();
            for (int s = 0; s < 8; s++) {
                fixed.add(meanOf(new Fixed(this, 0, s), 0, n, wind, wind, heat, dull, -1)[0]);
            }
            return best[1] - fixed.last();
        }

        int dress(int n, int wind) {
            if (no(wind, 6)) {
                return -1;
            }
            if (no(n - 1, 4)) {
                return -2;
            }
            if (led == null) {
                return -3;
            }
            int which = -5;
            Rule watch = new Watch(this, 0, 0);
            long most = meanOf(watch, 0, n, wind, wind, heat, dull, -1)[0];
            for (int k = 0; k < n && !away; k++) {
                long worth = meanOf(watch, 0, n, wind, wind, heat, dull, k)[0];
                if (worth > most) {
                    most = worth;
                    which = k;
                }
            }
            return which;
        }

        int day(int wind, int setting) {
            if (wind == -1) {
                day.clear();
                return 0;
            }
            if (no(wind, 6)) {
                return -1;
            }
            if (no(setting, 8)) {
                return -2;
            }
            if (day.size() == 10) {
                return -4;
            }
            day.add(new int[] {wind, setting});
            return day.size();
        }

        int judged(int what) {
            if (no(what, 4)) {
                return -1;
            }
            if (led == null || away) {
                return -3;
            }
            int first = -5;
            int sum = 0;
            int wrong = -5;
            int cost = -5;
            int most = 0;
            int h = heat;
            int d = dull;
            for (int i = 0; i < day.size(); i++) {
                int[] gone = hourOf(led, day.get(i)[0], day.get(i)[1], h, d);
                if (first < 0 && gone[4] + gone[5] > 0) {
                    first = i;
                }
                int got = Math.max(0, gone[1]);
                sum += got;
                for (int s = 0; s < 8; s++) {
                    int more = hourOf(led, day.get(i)[0], s, h, d)[1] - got;
                    if (more > 0 && wrong < 0) {
                        wrong = i;
                    }
                    if (more > most) {
                        most = more;
                        cost = i;
                    }
                }
                if (gone[5] == 1) {
                    break;
                }
                h = gone[2];
                d = gone[3];
            }
            return new int[] {first, sum, wrong, cost}[what];
        }

        int order(int hours, int due, int price) {
            if (no(hours - 1, 20) || no(due - 1, 99) || no(price, 100)) {
                return -2;
            }
            if (orders.size() == 6) {
                return -4;
            }
            orders.add(new int[] {hours, due, price, orders.size()});
            return orders.size() - 1;
        }

        int take() {
            int which = 0;
            int most = 0;
            for (int set = (1 << orders.size()) - 1; set >= 0; set--) {
                int price = 0;
                for (int[] o : orders) {
                    price += (set >> o[3]) % 2 * o[2];
                }
                if (late(set) == 0 && price >= most) {
                    most = price;
                    which = set;
                }
            }
            return which;
        }

        int late(int set) {
            if (set < 0 || set >= 1 << orders.size()) {
                return -2;
            }
            List<int[]> turn = new ArrayList<>(orders);
            turn.sort((x, y) -> x[1] != y[1] ? x[1] - y[1] : x[3] - y[3]);
            int clock = 0;
            int late = 0;
            for (int[] o : turn) {
                if ((set >> o[3]) % 2 == 1) {
                    clock += o[0];
                    late += clock > o[1] ? 1 << o[3] : 0;
                }
            }
            return late;
        }

        int ridge(int a, int b, int c, int wind, int what) {
            if (no(a, mills.size()) || no(b, mills.size()) || no(c, mills.size()) || no(wind, 6) || no(what, 2)) {
                return -1;
            }
            int rest = -5;
            int here = 0;
            int most = -9;
            for (int ca = 0; ca < 4; ca++) {
                for (int cb = 0; cb < 4; cb++) {
                    for (int cc = 0; cc < 4; cc++) {
                        int[] g = three(a, b, c, wind, ca, cb, cc);
                        boolean still = true;
                        for (int o = 0; o < 4; o++) {
                            still &= three(a, b, c, wind, o, cb, cc)[0] <= g[0];
                            still &= three(a, b, c, wind, ca, o, cc)[1] <= g[1];
                            still &= three(a, b, c, wind, ca, cb, o)[2] <= g[2];
                        }
                        int sum = g[0] + g[1] + g[2];
                        most = Math.max(most, sum);
                        if (still && rest == -5) {
                            rest = 100 * ca + 10 * cb + cc;
                            here = sum;
                        }
                    }
                }
            }
            return what == 0 ? rest : rest == -5 ? 1 : here - most;
        }

        int[] three(int a, int b, int c, int wind, int ca, int cb, int cc) {
            return new int[] {
                hourOf(mills.get(a), wind, 2 * ca, 0, 0)[1],
                hourOf(mills.get(b), Math.max(0, wind - ca), 2 * cb, 0, 0)[1],
                hourOf(mills.get(c), Math.max(0, wind - ca - cb), 2 * cc, 0, 0)[1]};
        }

        long run(int rule, int n, int seed, int wind) {
            if (no(rule, rules.size()) || no(n - 1, 30) || no(seed, 1000) || no(wind, 6) || led == null || now + n > 999) {
                return Long.MIN_VALUE;
            }
            int before = wind;
            int w = wind;
            int sum = 0;
            for (int t = 0; t < n; t++) {
                sum += Math.max(0, go(w, rules.get(rule).setting(t, n - t, w, before, heat, dull)));
                before = w;
                int r = (seed * 31 + now * 17) * 7 % 1000;
                w = 0;
                for (int up = chances[before][0]; up <= r; up += chances[before][w]) {
                    w++;
                }
            }
            return sum;
        }

        int act(int rule, int act, int x) {
            trace.clear();
            if (no(rule, rules.size()) || no(act, 3)) {
                return 0;
            }
            Rule r = rules.get(rule);
            return act == 0 ? r.sets(x) : act == 1 ? r.turns(x) : r.tells(x);
        }

        int trace(int i) {
            return no(i, Math.min(20, trace.size())) ? -1 : trace.get(i);
        }

        int as(int rule, int k) {
            if (no(rule, rules.size()) || no(k, 7)) {
                return -1;
            }
            Rule r = rules.get(rule);
            Class<?>[] kinds = {Rule.class, Fixed.class, Sign.class, Watch.class, Best.class, Safe.class, Told.class};
            return kinds[k].isInstance(r) ? r.v : -6;
        }

        int image() {
            image = new Model();
            image.take(this);
            return mills.size();
        }

        int undo() {
            if (image == null) {
                return -3;
            }
            take(image);
            return mills.size();
        }

        int count(int what) {
            int[] all = {mills.size(), rules.size(), day.size(), orders.size(), tape.length(), trace.size()};
            return no(what, 6) ? -1 : all[what];
        }
    }

    /** The FAULT of a text, byte by byte with a stack of what is open; -1: it is a MILL. */
    static int faultOf(String text) {
        StringBuilder open = new StringBuilder();
        String word = "";
        String state = "word";
        int clauses = 1;
        String digits = "";
        for (int i = 0; i < text.length(); i++) {
            char c = text.charAt(i);
            boolean isDigit = c >= '0' && c <= '9';
            if (state.equals("word")) {
                word += c;
                boolean begins = false;
                for (String w : new String[] {"fast ", "meal ", "heat ", "wear ", "cool ", "edge ", "burn "}) {
                    begins |= w.startsWith(word);
                }
                if (!begins) {
                    return i;
                }
                if (c == ' ') {
                    state = "n";
                    digits = "";
                }
                continue;
            }
            if (state.equals("F")) {
                if ((c == '!' || c == '(') && open.length() < 5) {
                    open.append(c);
                } else if ("wcshdf".indexOf(c) >= 0) {
                    state = "side";
                } else {
                    return i;
                }
                continue;
            }
            if (state.equals("side")) {
                if ("<=>".indexOf(c) < 0) {
                    return i;
                }
                state = "m";
                digits = "";
                continue;
            }
            if ((state.equals("n") || state.equals("m")) && isDigit && digits.length() < 2 && !digits.equals("0")) {
                digits += c;
                continue;
            }
            if ((state.equals("n") || state.equals("m")) && digits.isEmpty()) {
                return i;
            }
            boolean withE = "fmhw".indexOf(word.charAt(0)) >= 0;
            if (state.equals("n") && withE) {
                if (c != ' ') {
                    return i;
                }
                state = "F";
                continue;
            }
            // behind a test, a ) or a bare n: all ! on top end here
            while (open.length() > 0 && open.charAt(open.length() - 1) == '!') {
                open.setLength(open.length() - 1);
            }
            boolean inE = !state.equals("n");
            if (inE && (c == '&' || c == '|')) {
                state = "F";
            } else if (inE && c == ')' && open.length() > 0) {
                open.setLength(open.length() - 1);
                state = "behind";
            } else if (c == ';' && open.length() == 0 && clauses < 10) {
                clauses++;
                state = "word";
                word = "";
            } else {
                return i;
            }
        }
        boolean withE = !word.isEmpty() && "fmhw".indexOf(word.charAt(0)) >= 0;
        boolean ends = state.equals("behind") || state.equals("m") && !digits.isEmpty()
            || state.equals("n") && !digits.isEmpty() && !withE;
        return ends && open.indexOf("(") < 0 ? -1 : text.length();
    }

    // ---- drawing

    static Random random;

    static int draw(int n) {
        return random.nextInt(n);
    }

    static String someOr(int depth) {
        StringBuilder s = new StringBuilder();
        int n = draw(4) == 0 ? 2 : 1;
        for (int i = 0; i < n; i++) {
            s.append(i > 0 ? "|" : "").append(someAnd(depth));
        }
        return s.toString();
    }

    static String someAnd(int depth) {
        StringBuilder s = new StringBuilder();
        int n = draw(3) == 0 ? 2 : 1;
        for (int i = 0; i < n; i++) {
            s.append(i > 0 ? "&" : "").append(some(depth));
        }
        return s.toString();
    }

    static String some(int depth) {
        int what = draw(8);
        if (depth < 5 && what == 0) {
            return "!" + some(depth + 1);
        }
        if (depth < 5 && what == 1) {
            return "(" + someOr(depth + 1) + ")";
        }
        int sign = draw(6);
        int[] tops = {6, 4, 2, 10, 10, 25};
        return "" + "wcshdf".charAt(sign) + "<=>".charAt(draw(3)) + (draw(20) == 0 ? draw(100) : draw(tops[sign]));
    }

    static String clause() {
        int what = draw(10);
        if (what < 2) {
            return "fast " + draw(9) + " " + someOr(0);
        }
        if (what < 5) {
            return "meal " + (draw(5) == 0 ? draw(100) : draw(20)) + " " + someOr(0);
        }
        if (what == 5) {
            return "heat " + draw(5) + " " + someOr(0);
        }
        if (what == 6) {
            return "wear " + draw(4) + " " + someOr(0);
        }
        return what == 7 ? "cool " + draw(4) : what == 8 ? "edge " + (5 + draw(20)) : "burn " + (draw(20) == 0 ? 0 : 3 + draw(7));
    }

    static String text() {
        StringBuilder s = new StringBuilder();
        int n = 1 + draw(11);
        for (int i = 0; i < n; i++) {
            String next = (i > 0 ? ";" : "") + clause();
            if (s.length() + next.length() <= 120) {
                s.append(next);
            }
        }
        int spoil = draw(12);
        if (spoil < 3 && s.length() > 0) {
            int at = draw(s.length());
            String signs = "fmhwceb 0123456789;&|!()<=>sd\u00e9\0";
            if (spoil == 0) {
                s.setCharAt(at, signs.charAt(draw(signs.length())));
            } else if (spoil == 1) {
                s.setLength(at);
            } else if (s.length() < 120) {
                s.insert(at, signs.charAt(draw(signs.length())));
            }
        }
        return s.toString();
    }

    /** A number of 0 .. n - 1, now and then a wrong one. */
    static int near(int n) {
        int odd = draw(60);
        if (odd == 0) {
            int[] wrong = {-1, n, -2, n + 1, Integer.MIN_VALUE, Integer.MAX_VALUE, 1 << 30};
            return wrong[draw(wrong.length)];
        }
        return n <= 0 ? 0 : draw(n);
    }

    static Counted x;
    static Model m;
    static int run;
    static int wrong;
    static StringBuilder told;

    static void same(String call, long got, long want) {
        told.append(call).append(" = ").append(want).append('\n');
        if (got != want) {
            wrong++;
            if (wrong < 4) {
                System.out.println("run " + run + ": " + call + " answered " + got + ", the model says " + want);
                System.out.println(wrong == 1 ? told : "");
            }
        }
    }

    static void feedAll(String s) {
        for (int i = 0; i < s.length();) {
            int n = Math.min(1 + draw(8), s.length() - i);
            long w = draw(2) == 0 ? 0 : -1;
            for (int k = 0; k < n; k++) {
                w = w << 8 | s.charAt(i + k) & 255;
            }
            same("feed(" + w + ", " + n + ") (" + s.substring(i, i + n) + ")", x.feed(w, n), m.feed(w, n));
            i += n;
        }
    }

    static void spread(int wind) {
        int[] p = new int[6];
        int left = 1000;
        for (int i = 0; i < 3; i++) {
            int part = i == 2 ? left : draw(left + 1);
            p[draw(6)] += part;
            left -= part;
        }
        if (draw(15) == 0) {
            p[draw(5)] += draw(400) - 200;
        }
        same("wind(" + wind + ", " + p[0] + ", " + p[1] + ", " + p[2] + ", " + p[3] + ", " + p[4] + ")",
            x.wind(wind, p[0], p[1], p[2], p[3], p[4]), m.wind(wind, p[0], p[1], p[2], p[3], p[4]));
        m.bests.clear();
    }

    static void call() {
        m.bests.clear();
        int a = near(m.rules.size() + (draw(9) == 0 ? 1 : 0));
        int b = near(6);
        int c = near(8);
        int d = near(10);
        int e = near(10);
        if (m.led == null && draw(6) == 0 || m.away && draw(3) == 0) {
            int f = near(m.mills.size());
            same("lead(" + f + ")", x.lead(f), m.lead(f));
        }
        switch (draw(36)) {
            case 0: feedAll(text()); break;
            case 1: case 2: same("mill()", x.mill(), m.mill()); break;
            case 3: {
                int f = near(m.mills.size());
                int g = near(6);
                same("hour(" + f + ", " + b + ", " + c + ", " + d + ", " + e + ", " + g + ")",
                    x.hour(f, b, c, d, e, g), m.hour(f, b, c, d, e, g));
                break;
            }
            case 4: spread(near(6)); break;
            case 5: same("chance(" + b + ", " + c % 6 + ")", x.chance(b, c % 6), m.chance(b, c % 6)); break;
            case 6: {
                int f = near(m.mills.size());
                same("lead(" + f + ")", x.lead(f), m.lead(f));
                break;
            }
            case 7: case 8: same("led(" + b + ")", x.led(b), m.led(b)); break;
            case 9: case 10: case 11: same("go(" + b + ", " + c + ")", x.go(b, c), m.go(b, c)); break;
            case 12: {
                int k = near(7);
                same("rule(" + k + ", " + c + ")", x.rule(k, c), m.rule(k, c));
                break;
            }
            case 13: case 14: same("row(" + a + ", " + c + ")", x.row(a, c), m.row(a, c)); break;
            case 15: case 16: {
                int left = 1 + near(6);
                int before = near(6);
                same("sets(" + a + ", " + d + ", " + left + ", " + b + ", " + before + ")",
                    x.sets(a, d, left, b, before), m.sets(a, d, left, b, before));
                break;
            }
            case 17: case 18: {
                int n = 1 + near(draw(5) == 0 ? 6 : 4);
                int what = near(2);
                same("mean(" + a + ", " + n + ", " + b + ", " + what + ")", x.mean(a, n, b, what), m.mean(a, n, b, what));
                break;
            }
            case 19: {
                int n = 1 + near(draw(5) == 0 ? 6 : 4);
                int what = near(3);
                same("best(" + n + ", " + b + ", " + what + ")", x.best(n, b, what), m.best(n, b, what));
                break;
            }
            case 20: {
                int n = 1 + near(4);
                same("dress(" + n + ", " + b + ")", x.dress(n, b), m.dress(n, b));
                break;
            }
            case 21: case 22: same("day(" + b + ", " + c + ")", x.day(b, c), m.day(b, c)); break;
            case 23: {
                int what = near(4);
                same("judged(" + what + ")", x.judged(what), m.judged(what));
                break;
            }
            case 24: {
                int hours = 1 + near(20);
                int due = 1 + near(draw(2) == 0 ? 99 : 30);
                int price = near(draw(2) == 0 ? 100 : 3);
                same("order(" + hours + ", " + due + ", " + price + ")", x.order(hours, due, price), m.order(hours, due, price));
                break;
            }
            case 25: same("take()", x.take(), m.take()); break;
            case 26: {
                int set = near(1 << m.orders.size());
                same("late(" + set + ")", x.late(set), m.late(set));
                break;
            }
            case 27: {
                int[] f = {near(m.mills.size()), near(m.mills.size()), near(m.mills.size()), near(2)};
                same("ridge(" + f[0] + ", " + f[1] + ", " + f[2] + ", " + b + ", " + f[3] + ")",
                    x.ridge(f[0], f[1], f[2], b, f[3]), m.ridge(f[0], f[1], f[2], b, f[3]));
                break;
            }
            case 28: {
                int n = 1 + near(30);
                int seed = near(1000);
                same("run(" + a + ", " + n + ", " + seed + ", " + b + ")", x.run(a, n, seed, b), m.run(a, n, seed, b));
                break;
            }
            case 29: case 30: {
                int act = near(3);
                int arg = draw(4) == 0 ? random.nextInt() : draw(100) - 50;
                same("act(" + a + ", " + act + ", " + arg + ")", x.act(a, act, arg), m.act(a, act, arg));
                break;
            }
            case 31: same("trace(" + c + ")", x.trace(c), m.trace(c)); break;
            case 32: {
                int k = near(7);
                same("as(" + a + ", " + k + ")", x.as(a, k), m.as(a, k));
                break;
            }
            case 33: if (draw(3) == 0) {
                same("image()", x.image(), m.image());
            } break;
            case 34: if (draw(6) == 0) {
                same("undo()", x.undo(), m.undo());
            } break;
            default: same("count(" + b + ")", x.count(b), m.count(b));
        }
    }

    /** After a run all that can be asked for must be alike. */
    static void askAll() {
        // these are the LAST_ONES
        m.bests.clear();
        for (int i = 0; i < 6; i++) {
            same("count(" + i + ")", x.count(i), m.count(i));
            same("led(" + i + ")", x.led(i), m.led(i));
            for (int k = 0; k < 6; k++) {
                same("chance(" + i + ", " + k + ")", x.chance(i, k), m.chance(i, k));
            }
        }
        for (int i = 0; i < m.trace.size(); i++) {
            same("trace(" + i + ")", x.trace(i), m.trace(i));
        }
        for (int i = 0; i < 4; i++) {
            same("judged(" + i + ")", x.judged(i), m.judged(i));
        }
        for (int set = 0; set < 1 << m.orders.size(); set++) {
            same("late(" + set + ")", x.late(set), m.late(set));
        }
    }

    public static void main(String[] args) {
        for (run = 0; run < RUNS; run++) {
            random = new Random(run);
            x = new Counted();
            m = new Model();
            told = new StringBuilder();
            int first = 1 + draw(3);
            for (int i = 0; i < first && run % 10 != 0; i++) {
                String drawn = text();
                for (int k = 0; k < 20 && run % 10 > 2 && (faultOf(drawn) >= 0 || !drawn.contains("meal")); k++) {
                    drawn = text();
                }
                feedAll(drawn);
                same("mill()", x.mill(), m.mill());
                spread(draw(6));
                int kind = draw(7);
                int v = draw(8);
                same("rule(" + kind + ", " + v + ")", x.rule(kind, v), m.rule(kind, v));
            }
            for (int i = 0; i < 6 && run % 3 != 0; i++) {
                spread(i);
            }
            same("lead(0)", x.lead(0), m.lead(0));
            while (x.left() > MOST_AT_ONCE + LAST_ONES) {
                call();
            }
            askAll();
        }
        System.out.println(wrong == 0 ? RUNS + " runs as the model" : wrong + " answers are not as the model's");
        if (wrong != 0) {
            System.exit(1);
        }
    }
}
