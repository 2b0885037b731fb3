import java.io.IOException;
import java.nio.file.Files;
import java.nio.file.Path;
import java.util.ArrayList;
import java.util.Arrays;
import java.util.List;
import java.util.function.LongSupplier;
import java.util.regex.Matcher;
import java.util.regex.Pattern;

/**
 * Tests by sentence: each names a promise and a sentence (or a part of one) of ../shared/DOC.md, and holds the class
 * to it by calls on a new object. A sentence must stand in the document once, and all its words must be named.
 */
abstract class Sentences {
    static final long NO = Long.MIN_VALUE;
    static final int MIN = Integer.MIN_VALUE, MAX = Integer.MAX_VALUE;
    private static final Path DOC = Path.of("../shared/DOC.md");

    interface Test {
        void on(Counted x);
    }

    private static final List<String> named = new ArrayList<>();
    private static final List<Integer> promises = new ArrayList<>();
    private static int failed;
    private static int asked;
    private static int wrong;

    /** One test: of a promise, by a sentence, on a new object. */
    static void holds(int promise, String sentence, Test test) {
        named.add(sentence);
        promises.add(promise);
        asked = 0;
        wrong = 0;
        try {
            test.on(new Counted());
        } catch (RuntimeException | StackOverflowError e) {
            tell("threw " + e);
        }
        if (asked == 0) {
            tell("asks for nothing");
        }
        if (wrong > 0) {
            failed++;
            System.out.println("promise " + promise + " does not hold: \"" + sentence + "\"");
        }
    }

    private static void tell(String what) {
        wrong++;
        if (wrong <= 5) {
            System.out.println("  " + what);
        }
    }

    static void due(String call, long got, long want) {
        asked++;
        if (got != want) {
            tell(call + " answered " + got + ", due is " + want);
        }
    }

    // ---- what many tests need

    static void feed(Counted x, String text) {
        for (int i = 0; i < text.length(); i += 8) {
            int n = Math.min(8, text.length() - i);
            long w = 0;
            for (int k = 0; k < n; k++) {
                w = w << 8 | text.charAt(i + k) & 255;
            }
            x.feed(w, n);
        }
    }

    static int read(Counted x, String text) {
        feed(x, text);
        return x.mill();
    }

    /** A MILL by its text; it must be one. */
    static void mill(Counted x, String text) {
        int number = x.count(0);
        due("mill() of " + text, read(x, text), number);
    }

    /** The MILL is read, and LED. */
    static Counted lead(Counted x, String text) {
        mill(x, text);
        due("lead", x.lead(x.count(0) - 1), 1);
        return x;
    }

    static Counted led(String text) {
        return lead(new Counted(), text);
    }

    /** A text is a MILL. */
    static void fine(String text) {
        due("mill() of \"" + text + "\"", read(new Counted(), text), 0);
    }

    /** A text has a FAULT. */
    static void fault(String text, int at) {
        due("mill() of \"" + text + "\"", read(new Counted(), text), -10 - at);
    }

    /** It ends too early. */
    static void early(String text) {
        fault(text, text.length());
    }

    /** Behind the start of a text only some bytes can stand. */
    static void only(String start, String next) {
        Counted x = new Counted();
        for (int b = 0; b < 256; b++) {
            String text = start + (char) b;
            x = x.count(0) > 0 || b % 20 == 0 ? new Counted() : x;
            int got = read(x, text);
            if (next.indexOf(b) < 0) {
                due("byte " + b + " behind \"" + start + "\"", got, -10 - start.length());
            } else {
                due("byte " + b + " behind \"" + start + "\" (0: goes on)", got == 0 ? 0 : got + 10 + text.length(), 0);
            }
        }
    }

    static String times(int n, String text) {
        return text.repeat(n);
    }

    /** Of all that there is so much that a change is seen, in some 45 calls; THE TRACE too, if it is told. */
    static String seen(Counted x, boolean trace) {
        StringBuilder s = new StringBuilder();
        int[] counts = new int[5];
        for (int what = 0; what < 6; what++) {
            if (what < 5) {
                counts[what] = x.count(what);
                s.append(counts[what]).append(' ');
            }
            s.append(x.led(what)).append(' ').append(x.chance(1, what)).append(' ').append(x.chance(5 - what, what)).append(' ');
        }
        for (int mill = 0; mill < counts[0]; mill++) {
            s.append(x.hour(mill, 2, 5, 3, 4, 0)).append(' ').append(x.hour(mill, 2, 5, 3, 4, 1)).append(' ');
        }
        for (int rule = 0; rule < counts[1]; rule++) {
            s.append(x.sets(rule, 9, 3, 2, 1)).append(' ');
        }
        for (int what = 0; what < 4; what++) {
            s.append(x.judged(what)).append(' ');
        }
        s.append(x.take()).append(' ').append(x.late((1 << counts[3]) - 1));
        if (trace) {
            s.append(' ').append(x.count(5)).append(' ').append(x.trace(0)).append(' ').append(x.trace(1));
        }
        return s.toString();
    }

    /** Calls that are refused: each with its answer, and they change nothing. */
    static void refused(Counted x, long want, String calls, LongSupplier... refused) {
        refusedBut(x, want, calls, true, refused);
    }

    private static void refusedBut(Counted x, long want, String calls, boolean trace, LongSupplier... refused) {
        String before = seen(x, trace);
        for (int i = 0; i < refused.length; i++) {
            due(calls + ", the " + (i + 1) + ". call", refused[i].getAsLong(), want);
        }
        String after = seen(x, trace);
        if (!before.equals(after)) {
            tell(calls + " changed " + before + " to " + after);
        }
    }

    /** As refused(), of acts: they empty THE TRACE and change nothing else. */
    static void refusedActs(Counted x, LongSupplier... refused) {
        refusedBut(x, 0, "act", false, refused);
    }

    /** An object with something of all: two MILLS, one LED that has gone, RULES, a ROW, a DAY, ORDERS, a TAPE. */
    static Counted full(Counted x) {
        mill(x, "meal 4 w>0&c=1;meal 7 w>0&c=2;heat 2 w>2;wear 1 s=1;cool 1;burn 8");
        mill(x, "fast 5 w>1;fast 5 w>3&c>1;meal 3 w<9;edge 9");
        x.lead(0);
        x.go(3, 3);
        x.wind(1, 100, 200, 300, 100, 50);
        for (int kind = 0; kind < 7; kind++) {
            x.rule(kind, 7 - kind);
        }
        x.row(6, 3);
        x.row(6, 5);
        x.day(2, 4);
        x.day(3, 5);
        x.order(5, 9, 10);
        x.order(6, 12, 3);
        x.feed('c', 1);
        x.act(5, 2, 4);
        return x;
    }

    // ---- what the document says

    private static String plain(String text) {
        return text.replaceAll("```(text)?", " ").replaceAll("==== \\d", " ").replaceAll("\\s+", " ");
    }

    private static int times(String text, String part) {
        int n = 0;
        for (int at = text.indexOf(part); at >= 0; at = text.indexOf(part, at + 1)) {
            n++;
        }
        return n;
    }

    private static void mark(boolean[] told, String text, String part) {
        int at = text.indexOf(part);
        Arrays.fill(told, at, at + part.length(), true);
    }

    private static void untold(String where, String text, boolean[] told, int from) {
        StringBuilder left = new StringBuilder();
        for (int i = from; i < text.length(); i++) {
            boolean word = Character.isLetterOrDigit(text.charAt(i));
            left.append(word && !told[i] ? text.charAt(i) : ' ');
        }
        String words = left.toString().replaceAll("\\s+", " ").trim();
        if (!words.isEmpty()) {
            failed++;
            System.out.println(where + ": no test names these words: " + words);
        }
    }

    /** Each sentence stands once in its promise or ahead of all promises, and no word of the promises is left. */
    static void checkWithTheDocument() throws IOException {
        if (Files.notExists(DOC)) {
            System.out.println("no " + DOC + " here: the sentences are not compared with it");
            return;
        }
        String whole = plain(Files.readString(DOC));
        int first = whole.indexOf("## Promise 1:");
        String ahead = whole.substring(0, first);
        List<String> sections = new ArrayList<>();
        List<boolean[]> told = new ArrayList<>();
        sections.add(ahead);
        Matcher m = Pattern.compile("## Promise (\\d+): .*?(?=## )").matcher(whole);
        while (m.find()) {
            sections.add(m.group());
        }
        if (sections.size() != 29) {
            failed++;
            System.out.println("the document has not 28 promises");
        }
        for (String section : sections) {
            told.add(new boolean[section.length()]);
        }
        for (int i = 0; i < named.size(); i++) {
            String sentence = plain(named.get(i));
            int at = times(sections.get(promises.get(i)), sentence) == 1 ? promises.get(i) : 0;
            if (times(sections.get(at), sentence) == 1) {
                mark(told.get(at), sections.get(at), sentence);
            } else {
                failed++;
                System.out.println("not once in promise " + promises.get(i) + " or the terms: \"" + sentence + "\"");
            }
        }
        int terms = ahead.indexOf("A MILL is read from");
        int end = ahead.indexOf("Ahead of the calls");
        untold("the terms", ahead.substring(0, end), told.get(0), terms);
        for (int promise = 1; promise < sections.size(); promise++) {
            String section = sections.get(promise);
            untold("promise " + promise, section, told.get(promise), section.indexOf("`: ") + 3);
        }
    }

    /** How many tests there are, and whether all hold. */
    static boolean end() {
        System.out.println(named.size() + " sentences, " + (failed == 0 ? "all hold" : failed + " faults"));
        return failed == 0;
    }
}
