import java.io.IOException;
import java.lang.reflect.Constructor;
import java.lang.reflect.Field;
import java.lang.reflect.Method;
import java.lang.reflect.Modifier;
import java.nio.file.Files;
import java.nio.file.Path;
import java.util.Set;
import java.util.TreeSet;
import java.util.regex.Matcher;
import java.util.regex.Pattern;

/** What of ../shared/LANGUAGE.md can be seen from the class and its text. */
public final class LanguageTest {
    private static final String FACE = "int act(int,int,int)|int as(int,int)|int chance(int,int)|int count(int)|"
        + "int day(int,int)|int dress(int,int)|int feed(long,int)|int go(int,int)|"
        + "int hour(int,int,int,int,int,int)|int image()|int judged(int)|int late(int)|int lead(int)|int led(int)|"
        + "int mill()|int order(int,int,int)|int ridge(int,int,int,int,int)|int row(int,int)|int rule(int,int)|"
        + "int sets(int,int,int,int,int)|int take()|int trace(int)|int undo()|int wind(int,int,int,int,int,int)|"
        + "long best(int,int,int)|long mean(int,int,int,int)|long run(int,int,int,int)";
    private static int wrong;

    private static void want(boolean fine, String rule) {
        if (!fine) {
            wrong++;
            System.out.println("not as the language's rules: " + rule);
        }
    }

    private static void theFace() {
        Set<String> face = new TreeSet<>();
        Set<String> names = new TreeSet<>();
        for (Method m : MillWind.class.getDeclaredMethods()) {
            if (Modifier.isPublic(m.getModifiers())) {
                String whole = m.toString();
                face.add(m.getReturnType() + " " + whole.substring(whole.indexOf("MillWind.") + 9));
                names.add(m.getName());
            }
        }
        want(String.join("|", face).equals(FACE), "1, the face: " + String.join("|", face));
        for (Method m : MillWind.class.getDeclaredMethods()) {
            boolean open = Modifier.isPublic(m.getModifiers());
            want(open || Modifier.isPrivate(m.getModifiers()) && !names.contains(m.getName()), "1, " + m);
        }
        for (Field f : MillWind.class.getDeclaredFields()) {
            boolean constant = Set.of("NONE", "BAD", "STATE", "FULL", "NO").contains(f.getName());
            want(constant ? Modifier.isPublic(f.getModifiers()) : Modifier.isPrivate(f.getModifiers()), "1, " + f);
        }
        for (Constructor<?> c : MillWind.class.getDeclaredConstructors()) {
            want(Modifier.isPublic(c.getModifiers()) && c.getParameterCount() == 0, "1, " + c);
        }
        Class<?>[] inside = MillWind.class.getDeclaredClasses();
        want(inside.length <= 11, "11, classes: " + (inside.length + 1));
        for (Class<?> c : inside) {
            want(Modifier.isStatic(c.getModifiers()) && !Modifier.isPublic(c.getModifiers()), "1, 2, " + c);
            int fields = 0;
            for (Field f : c.getDeclaredFields()) {
                boolean isStatic = Modifier.isStatic(f.getModifiers());
                fields += isStatic ? 0 : 1;
                want(!isStatic || Modifier.isFinal(f.getModifiers()), "5, " + f);
            }
            want(fields <= 20, "11, fields of " + c + ": " + fields);
            for (Method m : c.getDeclaredMethods()) {
                want(!names.contains(m.getName()), "1, " + m);
                want(m.getParameterCount() <= 7, "11, " + m);
            }
        }
    }

    private static void theText() throws IOException {
        String source = Files.readString(Path.of("src/main/java/MillWind.java"));
        String code = source.replaceAll("(?s)/\\*.*?\\*/", "").replaceAll("//[^\n]*", "");
        for (String word : new String[] {"throw", "throws", "try", "catch", "finally", "synchronized", "assert", "package",
            "equals", "hashCode", "toString", "instanceof", "System.out", "protected"}) {
            want(!Pattern.compile("\\b" + word + "\\b").matcher(code).find(), "no " + word);
        }
        want(!code.contains("->") && !code.contains("::"), "2, no lambda, no method reference");
        Matcher imports = Pattern.compile("import ([^;]*);").matcher(code);
        while (imports.find()) {
            want(imports.group(1).equals("java.util.Arrays"), "4, " + imports.group());
        }
        Matcher news = Pattern.compile("\\n(.*)\\bnew \\w+").matcher(code);
        while (news.find()) {
            boolean early = news.group(1).contains("final") || news.group(1).contains("mills[i]");
            want(early, "12, rows are made by constructors alone: " + news.group());
        }
        want(source.chars().allMatch(c -> c < 127), "4, signs are 1 to 127");
        String[] lines = source.split("\n");
        int begin = 0;
        for (int i = 0; i < lines.length; i++) {
            if (lines[i].matches(" {4,8}[^ /*].*\\) \\{")) {
                begin = i;
            }
            want(!lines[i].matches(" {4,8}}") || i - begin < 60 || lines[i].equals("    }"), "11, long method to line " + (i + 1));
            want(lines[i].length() <= 120, "a long line: " + (i + 1));
        }
    }

    public static void main(String[] args) throws IOException {
        theFace();
        theText();
        System.out.println(wrong == 0 ? "the language's rules hold" : wrong + " faults");
        if (wrong != 0) {
            System.exit(1);
        }
    }
}
