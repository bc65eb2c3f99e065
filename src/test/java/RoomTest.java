import java.lang.reflect.Method;
import java.net.URL;
import java.net.URLClassLoader;
import java.nio.charset.StandardCharsets;
import java.nio.file.Files;
import java.nio.file.Path;
import java.nio.file.Paths;
import java.util.ArrayList;
import java.util.List;
import java.util.regex.Matcher;
import java.util.regex.Pattern;
import javax.tools.ToolProvider;

/**
 * Rules 8 and 12 of LANGUAGE.md: a copy of the class that counts its open calls, its objects and their elements
 * runs the dearest scripts that are known (run from the project's directory).
 */
public final class RoomTest {
    private static final Pattern METHOD = Pattern.compile("^( +)(private|public) (.*)\\((.*)\\).*\\{$");
    private static final Pattern ARRAY = Pattern.compile("new (\\w+)\\[((?:[^\\[\\]]|\\[[^\\]]*\\])+)\\]");
    // No class has more fields than this; one without a constructor of its own is not counted.
    private static final int FIELDS = 26;
    private static final String METER = "final class Meter {\n"
        + "    static int open;\n    static int most;\n    static int objects;\n    static int elements;\n"
        + "    static void enter() { open++; most = Math.max(most, open); }\n"
        + "    static void made(int fields) { objects++; elements += fields; }\n"
        + "    static char[] made(char[] a) { made(a.length); return a; }\n"
        + "    static int[] made(int[] a) { made(a.length); return a; }\n"
        + "    static boolean[] made(boolean[] a) { made(a.length); return a; }\n"
        + "    static long[] made(long[] a) { made(a.length); return a; }\n"
        + "    static <T> T[] made(T[] a) { made(a.length); return a; }\n}\n";
    private static Class<?> shellClass;
    private static Class<?> meter;

    private static String measured(List<String> lines) {
        StringBuilder out = new StringBuilder();
        String end = null;
        boolean maker = false;
        for (String line : lines) {
            Matcher m = METHOD.matcher(line);
            boolean comment = line.trim().startsWith("//") || line.trim().startsWith("*") || line.trim().startsWith("/*");
            if (end == null && m.matches() && !line.contains(" class ")) {
                end = m.group(1) + "}";
                maker = m.group(3).matches("\\w+");
                out.append(line).append(maker ? "\nMeter.made(" + FIELDS + ");\n" : "\nMeter.enter(); try {\n");
            } else if (end != null && line.equals(end)) {
                out.append(maker ? "" : "} finally { Meter.open--; }\n").append(line).append('\n');
                end = null;
            } else {
                out.append(comment ? line : ARRAY.matcher(line).replaceAll("Meter.made(new $1[$2])")).append('\n');
            }
        }
        return out.toString();
    }

    private static void load() throws Exception {
        Path place = Files.createTempDirectory("measured");
        Path shell = place.resolve("TextShell.java");
        Path counter = place.resolve("Meter.java");
        List<String> lines = Files.readAllLines(Paths.get("src/main/java/TextShell.java"), StandardCharsets.US_ASCII);
        Files.writeString(shell, measured(lines));
        Files.writeString(counter, METER);
        int failed = ToolProvider.getSystemJavaCompiler().run(null, null, null, "-d", place.toString(), shell.toString(), counter.toString());
        Session.due("the measured copy compiles", failed, 0);
        URLClassLoader loader = new URLClassLoader(new URL[] {place.toUri().toURL()}, null);
        shellClass = loader.loadClass("TextShell");
        meter = loader.loadClass("Meter");
    }

    private static int counted(String name) throws Exception {
        java.lang.reflect.Field field = meter.getDeclaredField(name);
        field.setAccessible(true);
        return field.getInt(null);
    }

    private static void zero(String name) throws Exception {
        java.lang.reflect.Field field = meter.getDeclaredField(name);
        field.setAccessible(true);
        field.setInt(null, 0);
    }

    private static int call(Object shell, String name, int... values) throws Exception {
        Class<?>[] types = new Class<?>[values.length];
        Object[] boxed = new Object[values.length];
        for (int i = 0; i < values.length; i++) {
            types[i] = int.class;
            boxed[i] = values[i];
        }
        Method method = shellClass.getMethod(name, types);
        return (Integer) method.invoke(shell, boxed);
    }

    /** Reads, prints and runs the scripts on one shell; the bounds hold for all of it. */
    private static void holds(String what, boolean runsWell, String... scripts) throws Exception {
        for (String name : new String[] {"open", "most", "objects", "elements"}) {
            zero(name);
        }
        Object shell = shellClass.getConstructor().newInstance();
        for (String script : scripts) {
            for (int i = 0; i < script.length(); i += 20) {
                int[] fours = new int[5];
                for (int k = 0; k < 20; k++) {
                    int c = i + k < script.length() ? script.charAt(i + k) : 0;
                    fours[k / 4] |= c << 24 - 8 * (k % 4);
                }
                call(shell, "feed", fours);
            }
            int fault = call(shell, "read", script.length());
            if (fault == 0) {
                call(shell, "print");
                call(shell, "run", 100000);
            }
            Session.due(what + ": read", fault == 0, runsWell);
        }
        Session.due(what + ": open calls " + counted("most"), counted("most") < 300, true);
        Session.due(what + ": objects " + counted("objects"), counted("objects") < 600000, true);
        Session.due(what + ": elements " + counted("elements"), counted("elements") < 7300000, true);
    }

    private static String times(String text, int n) {
        StringBuilder all = new StringBuilder();
        for (int i = 0; i < n; i++) {
            all.append(text);
        }
        return all.toString();
    }

    private static String nested(String ahead, String core, String behind, int n) {
        return times(ahead, n) + core + times(behind, n);
    }

    /** Each way to be within something, as deep as reading and running go. */
    private static void deep() throws Exception {
        String[][] ways = {{"x=$(", ") true"}, {"x=$(", ")"}, {"echo $(", ")"}, {": > $(", ")"}, {"{ :; } > $(", ")"}, {"x=${u-$(", ")}"}, {": ${x%$(", ")}"}, {"echo $(( $(", ") ))"},
            {"if ", "; then :; fi"}, {"{ ", "; }"}, {"( ", " )"}, {"while ", "; do break; done"}, {"for i in $(", "); do :; done"}, {"case $(", ") in *) ;; esac"},
            {"case a in $(", ")) ;; esac"}, {"{ : | ", "; }"}, {"f() { ", "; }; f"}, {"{ ", " & }"}};
        for (String[] way : ways) {
            int n = way[0].contains("${") || way[0].contains("((") || way[0].contains("for") || way[0].contains("case") ? 18 : 38;
            String core = "echo $((x=1+2)) */* `f`";
            for (int more = 8; more <= 24; more += 4) {
                String inner = nested(way[0], core, way[1], Math.min(more, n)).replace("'", "'\\''");
                holds(way[0] + " " + more, true, "x=0; f() { :; }; s='" + inner + "'; " + nested(way[0], "eval \"$s\"", way[1], n));
            }
            holds(way[0] + " by a function", true, "f() { " + nested(way[0], "f", way[1], Math.min(n, 12)) + "; }; f");
        }
        holds("the reader's and the print's depth", true, nested("if a; then ", "b", "; fi", 40), nested("f() { ", "b", "; }", 40), "a " + nested("${x-", "", "}", 40));
    }

    /** Scripts that make many objects, or large ones, for little WORK. */
    private static void dear() throws Exception {
        String eight = "x=" + times(":", 240) + "; x=$x$x$x$x$x$x$x$x; ";
        holds("empty fields", true, eight + "IFS=:; while :; do : $x; done");
        holds("empty parameters", true, eight + "IFS=:; set $x; while :; do : \"$@\"; done");
        holds("fields of one sign", true, "x=" + times("a:", 240) + "; x=$x$x$x$x; IFS=:; while :; do : $x; done");
        holds("parameters of one sign", true, "x=" + times("a:", 240) + "; x=$x$x$x$x; IFS=:; set $x; while :; do : \"$@\"; done");
        holds("names that are not there", true, "x=" + times("%s", 200) + "; x=$x$x$x$x$x$x$x$x; while :; do printf $x; done");
        holds("assignments", true, "while :; do : $((" + times("(a=1)+", 300) + "1)); done");
        holds("pipes", true, "while :; do :|:|:|:|:|:|:|:; done");
        holds("redirections", true, "while :; do : <&0 <&0 <&0 <&0 <&0 <&0; done");
        holds("here-documents", true, "while :; do : <<E <<E <<E\nE\nE\nE\ndone");
        holds("texts", true, "x='a;a;a;a;a;a;a;a;a;a;a;a;a;a;a;a;a;a;a;a;a'; x=\"$x;$x;$x;$x;$x;$x;$x;$x\"; while :; do eval \"$x\"; done");
        holds("parts", true, "x=" + times("$a", 200) + "; x=\"$x$x$x$x$x$x$x$x\"; while :; do eval \": $x\"; done");
        String many = "mkdir " + times("d$((n+=1)) ", 40) + "; for i in d*; do : > $i/f; done; ";
        holds("paths", true, many + "while :; do : */*/../*/f; done");
        String far = "x=./././././; x=$x$x$x$x$x$x$x$x$x$x; ";
        holds("long paths beyond the bound", true, many + far + "while :; do ( : $x*/../*/../* ); done; echo a", "echo a");
        holds("long names", true, "n=" + times("n", 58) + "; mkdir $n $n/$n $n/$n/$n; cd $n/$n/$n; for i in " + times("a ", 14) + "; do d=${d}1; mkdir $n$d; cd $n$d; done; cd /; "
            + "while :; do ( : $n/$n/$n*/*/*/*/*/*/*/*/*/*/*/*/*/* ); done");
        holds("words that are left", true, "y=" + times("y", 500) + "; y=$y$y$y$y$y$y$y$y; y=$y$y$y$y; "
            + "while :; do (x=$y$y); (: >$y$y); (: $(($y$y))); (case $y$y in a) ;; esac); (: $y$y); done");
        String y = "y=" + times("y", 500) + "; y=$y$y$y$y$y$y$y$y; y=$y$y$y$y; set \"$y\"; ";
        for (String left : new String[] {"${1%$((1/0))}", "${1##${u?}}", "${y%%$((1/0))}", "\"${1#$((1/0))}\"", "${y+$y$((1/0))}", "${u-$1${u?}}", "$(($y$((1/0))))"}) {
            holds("a value whose w is left: " + left, true, y + "while :; do (: " + left + "); done");
            Session.due(left + ": elements " + counted("elements"), counted("elements") < 1000000, true);
        }
        holds("a body in a body", true, bodies(36, 5000), bodies(36, 5000), bodies(36, 5000), bodies(36, 5000), bodies(36, 5000), bodies(36, 5000), bodies(36, 5000));
        holds("words in words", true, words(38, 5000), words(38, 5000), words(38, 5000), words(38, 5000), words(38, 5000), words(38, 5000), words(38, 5000));
        holds("half of a word at each level", true, "y=" + times("y", 500) + "; y=$y$y$y$y$y$y$y$y; y=$y$y$y$y; f() { : $y$(f); }; f; " + nested(": $y$(", ":", ")", 38),
            "while :; do (" + nested(": $y${a-", "", "}", 38) + "); done");
        holds("long words of tr", true, "y=$(printf '\\t-~'); y=$y$y$y$y$y$y$y$y$y$y$y$y$y; y=$y$y$y$y$y$y$y; y=$y$y$y$y$y; "
            + "y=$y$y$y$y$y$y$y$y$y$y$y$y; while :; do echo abc | tr \"$y\" \"$y\"; done");
        Session.due("long words of tr: elements " + counted("elements"), counted("elements") < 500000, true);
        holds("lines", true, "while :; do seq 1 200 | sort -r | uniq -c | tail -n 3; done");
        holds("reads", true, "while :; do read a b c d e f g h i j k l m n; done");
        holds("subshells", true, "while :; do (x=1; y=2; set a b c; f() { :; }); done");
    }

    /** A here-document in the body of one in that of another, with so many bytes in the innermost. */
    private static String bodies(int n, int bytes) {
        StringBuilder text = new StringBuilder();
        for (int i = 0; i < n; i++) {
            text.append(i == 0 ? "" : "$(").append("cat <<E").append(i).append('\n');
        }
        text.append(times("0123456789", bytes / 10)).append('\n');
        for (int i = n - 1; i >= 0; i--) {
            text.append('E').append(i).append('\n').append(i == 0 ? "" : ")\n");
        }
        return text.toString();
    }

    private static String words(int n, int bytes) {
        return nested("echo $(", "echo " + times("0123456789", bytes / 10), ")", n);
    }

    public static void main(String[] args) throws Exception {
        if (ToolProvider.getSystemJavaCompiler() == null) {
            System.out.println("this java has no compiler of its own: nothing is measured");
            return;
        }
        load();
        deep();
        dear();
        Session.end();
    }
}
