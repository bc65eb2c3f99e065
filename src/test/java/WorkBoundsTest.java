import java.util.List;
import java.util.TreeSet;

/**
 * The document's boundary cases in the order of its words, fourth part: BOUNDS of running (promises 5, 12). Above each
 * method stands what it tries: at the bound, one below it, one beyond it.
 */
public final class WorkBoundsTest {
    private static final int MOST = 128000;

    private static void due(String what, Object got, Object want) {
        Session.due(what, got, want);
    }

    private static void runs(String text, String want) {
        Session.runs(text, want);
    }

    private static String times(String text, int n) {
        return text.repeat(n);
    }

    /** A script that runs the text within so many evals. */
    private static String within(int levels, String text) {
        StringBuilder script = new StringBuilder();
        String core = text + "\necho ok";
        if (levels == 0) {
            return core;
        }
        script.append("e1='").append(core.replace("'", "'\\''")).append("'\n");
        for (int i = 2; i <= levels; i++) {
            script.append('e').append(i).append("='eval \"$e").append(i - 1).append("\"'\n");
        }
        return script.append("eval \"$e").append(levels).append("\"; echo behind $?").toString();
    }

    // "60 compounds, functions, evals, files of ., substitutions, and-ors with &, parts of pipelines, w's and a's .., within one another"
    private static void sixtyWithin() {
        String[][] all = {{"0", ":"}, {"0", "x=1 > f"}, {"0", "f() { f; }"}, {"0", "cat <<E > f\n$x\nE"}, {"0", "echo $x \"$@\" * > f"}, {"0", "true && ! false || :"}, {"0", "echo ${u+a} ${#x} ${h?} ${h-$(:)} > f"}, {"0", ": ${u%a}"},
            {"1", "{ :; }"}, {"1", "(:)"}, {"1", "if :; then :; fi"}, {"1", "while false; do :; done"}, {"1", "until :; do :; done"}, {"1", "for i in a b; do :; done"}, {"1", "for i in; do :; done"}, {"1", "case a in b) esac"}, {"1", "eval :"}, {"1", "eval"}, {"1", ". ./s"},
            {"1", ": $(:)"}, {"1", ": `:`"}, {"1", ": $()"}, {"1", "x=$(:)"}, {"1", ": > $(echo f)"}, {"1", "cat <<E > f\n$(:)\nE"}, {"1", ": &"}, {"1", ": && : &"}, {"1", ": | :"}, {"1", ": | : | :"}, {"1", "! : | :"}, {"1", ": ${u-a}"}, {"1", ": ${u=a}"}, {"1", ": ${h+a}"}, {"1", ": ${h%a}"}, {"1", ": ${h##a}"}, {"1", ": $((1))"}, {"1", "x=$(())"},
            {"1", "{ :; } > $(echo f)"}, {"1", "{ :; } > f; { :; }; (:); : | :; : $(:) $((1)) ${u-a}; : &"},
            {"2", "f"}, {"2", "{ { :; }; }"}, {"2", "{ (:); }"}, {"2", "{ eval :; }"}, {"2", "{ : | :; }"}, {"2", "{ : & }"}, {"2", ": ${u-$(:)}"}, {"2", ": ${u-${u-a}}"}, {"2", ": $(($((1))))"}, {"2", ": $((${u-1}))"}, {"2", ": ${h%$(:)}"}, {"2", "for i in $(:); do :; done"},
            {"2", "case $(:) in a) esac"}, {"2", "case a in $(:)) esac"}, {"2", "if { :; }; then :; fi"}, {"2", "while { false; }; do :; done"}, {"2", "for i in a; do { :; }; done"}, {"2", "case a in a) { :; } esac"}, {"2", "eval eval :"}, {"2", ". ./t"}, {"3", "eval f"}, {"3", "{ f; }"}, {"3", "eval '. ./t'"}, {"4", "eval '{ f; }'"}};
        for (String[] row : all) {
            int needs = Integer.parseInt(row[0]);
            String ahead = "h=v; echo : > s; echo '. ./s' > t; f() { :; }\n";
            for (int level = 58 - needs; level <= 61; level++) {
                boolean fine = level <= 60 && level + needs <= 60;
                // Beyond 60 evals the last one is the error, else what is tried.
                runs(ahead + within(level, row[1]), fine ? "ok\nbehind 0\n?0" : "?2");
            }
        }
        // In a subshell of its own what is beyond ends that alone.
        String[][] below = {{"2", "{ printf in; } | cat"}, {"2", "{ printf in; } &"}, {"2", "printf %s \"$({ printf in; })\""}, {"3", "f | cat"}, {"3", "f &"}, {"2", "eval ': $(:)' | cat; : | eval 'printf in'"}};
        for (String[] row : below) {
            int needs = Integer.parseInt(row[0]);
            for (int level = 57 - needs; level <= 60; level++) {
                String told = new Session().run("f() { printf in; }\n" + within(level, row[1]));
                String want = (level + needs <= 60 ? "in" : "") + "ok\nbehind 0\n?0";
                due(row[1] + " within " + level, told, level == 60 ? "?2" : want);
            }
        }
        // What is one behind another is not within one another.
        runs("f() { :; }; " + within(57, "for i in 1 2 3; do " + times("f; { :; }; : $(:); eval :; ", 20) + " done"), "ok\nbehind 0\n?0");
        // An error beyond the bound ends the subshell that it is in, not those around it.
        runs(within(59, "(eval :; echo no); echo $?"), "2\nok\nbehind 0\n?0");
        runs(within(59, "echo $(eval :; echo no)$?; { { :; }; echo no; } | cat"), "0\nok\nbehind 0\n?0");
        runs(within(60, "eval : || echo no"), "?2");
    }

    private static String numbered(String text, int n) {
        StringBuilder all = new StringBuilder();
        for (int i = 0; i < n; i++) {
            all.append(' ').append(text).append((char) ('a' + i / 26)).append((char) ('a' + i % 26));
        }
        return all.toString();
    }

    // "2000 paths, of 65536 characters together, that match up to any part of a pattern of path names"
    private static void paths() {
        for (int n = 1999; n <= 2001; n++) {
            // Of each directory in a: all 49 names of a; of each one in b: all names of b.
            int directories = n == 1999 ? 3 : n == 2000 ? 4 : 1;
            int names = n == 1999 ? 13 : n == 2000 ? 10 : 41;
            String made = "mkdir a b" + numbered("a/d", 40) + numbered("b/d", directories) + "; touch" + numbered("a/f", 9) + numbered("b/f", names - directories) + "; ";
            runs(made + "for i in */*/../*; do :; break; done; echo ok $i", n <= 2000 ? "ok a/daa/../daa\n?0" : "?2");
            runs(made + "set */*/../*; echo $#", n <= 1999 ? "1999\n?0" : "?2");
        }
        // In the middle of a pattern: of each directory in d all of d, so the squares come together.
        int[][] squares = {{40, 19, 6, 1, 1}, {40, 20}, {44, 8, 1}, {44}, {45}};
        int[] sums = {1999, 2000, 2001, 1936, 2025};
        for (int i = 0; i < squares.length; i++) {
            StringBuilder made = new StringBuilder("mkdir a b c d e");
            for (int k = 0; k < squares[i].length; k++) {
                made.append(numbered("abcde".charAt(k) + "/d", squares[i][k]));
            }
            runs(made + "; (echo */*/../*/nothing); echo $?; (echo */nothing/*/../*/*); echo $?", (sums[i] <= 2000 ? "*/*/../*/nothing\n0\n" : "2\n") + "*/nothing/*/../*/*\n0\n?0");
        }
        for (int more = -1; more <= 1; more++) {
            // 64 paths of 1024 signs: 16 directories of 60 signs and a / each, and names of 48.
            String q = "e" + times("f", 45);
            String last = more < 0 ? "; mv $q'hh' ${q}h" : more > 0 ? "; mv $q'hh' ${q}hhh" : "";
            String made = "p=; for i in" + times(" a", 16) + "; do mkdir ${p}" + times("n", 60) + "; p=${p}" + times("n", 60) + "/; done; cd $p; q=" + q
                + "; for i in a b c d e f g h; do for j in a b c d e f g h; do > $q$i$j; done; done" + last + "; cd /; ";
            runs(made + "for i in $p*; do :; break; done; echo ok ${#i}", more <= 0 ? "ok 1024\n?0" : "?2");
            runs(made + "set $p*; echo $# ${#57}", more <= 0 ? "64 " + (1024 + more) + "\n?0" : "?2");
        }
    }

    /** A shell that has done so much WORK and nothing else that could be seen. */
    private static Session worked(int work) {
        Session s = new Session();
        s.put(0, "h", times("1", 4096));
        while (work - s.shell.count(15) > 30000) {
            s.read(": $h$h$h$h");
            s.shell.run(1);
        }
        // : and a word cost 33 besides the word's signs.
        int rest = work - s.shell.count(15) - 33;
        while (rest > 16384) {
            rest -= 8192 + 33;
            s.read(": $h$h");
            s.shell.run(1);
        }
        s.put(0, "q", times("1", rest % 4096));
        s.read(": $q" + times("$h", rest / 4096));
        s.shell.run(1);
        s.shell.reset();
        due("WORK", s.shell.count(15), work);
        return s;
    }

    /** WORK, whether the shell was found spent, and how many bytes were written, behind the steps. */
    private static int[] reckoned(int work, String steps) {
        int[] at = {work, 0, 0};
        for (String step : steps.split(" ")) {
            int n = step.length() > 1 ? Integer.parseInt(step.substring(1)) : 0;
            char kind = step.charAt(0);
            if ((kind == 'L' || kind == 'c' || kind == 'w') && at[0] >= MOST) {
                at[1] = 1;
                return at;
            }
            at[0] += kind == 'c' ? 16 : kind == 'w' ? 8 + n : kind == '+' ? n : 0;
            int bytes = kind == 'R' || kind == 'W' ? Math.max(0, Math.min(n, MOST - at[0])) : 0;
            at[0] += bytes;
            at[2] += kind == 'W' ? bytes : 0;
        }
        return at;
    }

    /** WORK ahead of each step, one less and one more. */
    private static TreeSet<Integer> edges(String steps) {
        TreeSet<Integer> edges = new TreeSet<>();
        String done = "+0";
        for (String step : (steps + " +0").split(" ")) {
            int at = reckoned(0, done)[0];
            edges.addAll(List.of(at - 1, at, at + 1));
            done += " " + step;
        }
        return edges;
    }

    // "At 128000 or more the shell is SPENT: that is looked at ahead of each command (ahead of all else), each such word, and each part of a pattern of path names;
    // commands read no byte and write none from there on". Steps: L a look, c a look and a command, w a look and a word, + other WORK, R and W bytes that are read and written.
    private static void spent() {
        String[][] scripts = {{": a", "c w1 w1"}, {": '' \"\"", "c w1 w0 w0"}, {"x=ab", "c w2"}, {"x=1 y=22 :", "c w1 w1 w2"}, {"> f", "c w1"}, {": > f 2> ff", "c w1 w1 w2"}, {": 3> ff", "c w1 w2"}, {"nothing", "c w7"}, {"{ :; }", "c c w1"}, {"(:)", "c c w1"}, {": &", "c w1"}, {"! :", "c w1"}, {": && : || :", "c w1 c w1"},
            {": | :", "c w1 c w1"}, {"f() { :; }", "c"}, {"f() { :; }; f", "c c w1 c c w1"}, {"if :; then :; else :; fi", "c c w1 c w1"}, {"while false; do :; done", "c c w5"}, {"until false; do break; done", "c c w5 c w5"}, {"for i in a bb; do :; done", "c w1 w2 c w1 c w1"}, {"for i in; do :; done", "c"}, {"{ :; } > ff", "c w2 c w1"},
            {"set a b c; for i do :; done", "c w3 w1 w1 w1 c +3 c w1 c w1 c w1"}, {"set a b c; for i; do break; done", "c w3 w1 w1 w1 c +3 c w5"}, {"set a b c; shift; shift 2", "c w3 w1 w1 w1 c w5 +2 c w5 w1"}, {"case ab in c) ;; d|a*) : ;; e) esac", "c w2 w1 w1 w2 c w1"}, {"case '' in esac", "c w0"}, {"eval : a", "c w4 w1 w1 c w1 w1"}, {"eval", "c w4"},
            {": $((1+1))", "c w1 L w3 +9"}, {": ${u-ab}", "c w1 L w2 +10"}, {": ${u=ab}$u", "c w1 L w2 +12"}, {": ${u+ab}a", "c w1 w1"}, {"x=abc; : ${x%b} ${x#a}", "c w3 c w1 L w1 +3 +11 L w1 +3 +10"}, {": ${u%a}", "c w1 w0"}, {"x=; : ${x##a}", "c w0 c w1 L w1 +0 +8"}, {"x=$(:)", "c L c w1 +8"}, {": $()", "c w1 w0"}, {"$(:)", "c L c w1 +8"},
            {": \"$@\" $@ \"$*\"", "c w1 w0 w0 w0"}, {"set a bb; : $@ \"$@\"", "c w3 w1 w2 c w1 w4 w4"}, {": *", "c w1 w1 L +10"}, {": d/*", "c w1 w3 L +9 L +12"}, {": */ q*", "c w1 w2 L +9 L +10 w2 L"}, {"x=*", "c w1"}, {"cat <<E\n$u\nE", "c w3 w1 R1 W1"}, {"cat <<'E'\nE", "c w3 w0"},
            {"echo abc", "c w4 w3 W4"}, {"echo abc > g", "c w4 w3 w1 V4"}, {"echo abc >&-", "c w4 w3 w1 V4"}, {"echo abc > /dev/null", "c w4 w3 w9 V4"}, {": $(: ab)", "c w1 L c w1 w2 +8"}, {"printf %d x", "c w6 w2 w1"}, {"cat ab", "c w3 w2 R5 W5"}, {"cat < ab", "c w3 w2 R5 W5"}, {"cat ab ab > /dev/null", "c w3 w2 w2 w9 R5 R5 V10"}, {"cat", "c w3 R4 W4"},
            {"head -n 0 ab", "c w4 w2 w1 w2 R5"}, {"wc -l ab", "c w2 w2 w2 R5 W2"}, {"cp ab g", "c w2 w2 w1 R5 V5"}, {"cp ab n/g", "c w2 w2 w3"}, {"mv ab g", "c w2 w2 w1"}, {"read x", "c w4 w1 R4"}, {"read x y", "c w4 w1 w1 R4"}, {"seq 1 3", "c w3 w1 w1 W6"}, {"ls", "c w2 W3"}, {"pwd", "c w3 W2"}, {"touch n; rm n; mkdir n", "c w5 w1 c w2 w1 c w5 w1"}, {". none", "c w1 w4"}};
        for (String[] script : scripts) {
            // Bytes of V are written elsewhere.
            String steps = script[1].replace('V', 'W');
            for (int ahead : edges(steps)) {
                int work = MOST - ahead;
                Session s = worked(work);
                s.put(1, "/ab", "a\nbcd");
                if (script[0].contains("/*") || script[0].contains("*/")) {
                    s.put(3, "/d", "");
                    s.put(1, "/d/ab", "");
                }
                s.input("pqr\n");
                due(script[0], s.read(script[0]), 0);
                int[] due = reckoned(work, steps);
                String at = script[0] + " at " + work;
                due(at + ": run", s.shell.run(100), due[1] == 1 ? 2 : 0);
                due(at + ": WORK", s.shell.count(15), due[0]);
                due(at + ": status when spent", due[1] == 0 || s.shell.count(1) == 130, true);
                due(at + ": spent", s.shell.count(16), due[0] >= MOST ? 1 : 0);
                due(at + ": bytes", s.shell.count(2), script[1].contains("V") ? 0 : due[2]);
            }
        }
    }

    // "that is looked at ahead of each command (ahead of all else)": ahead of the bound of 60, too
    private static void spentAtTheBound() {
        for (String text : new String[] {": | :", ": &", "{ :; }", "(:)"}) {
            String script = within(60, text);
            Session fresh = new Session();
            due(text + " within 60", fresh.run(script), "?2");
            // A compound has its 16 ahead of that bound.
            int work = fresh.shell.count(15) - (text.startsWith(":") ? 0 : 16);
            for (int more = -1; more <= 1; more++) {
                Session s = worked(MOST - work + more);
                due(text, s.read(script), 0);
                due(text + " spent, or not: " + more, s.shell.run(100000), more < 0 ? 0 : 2);
                due(text + " status: " + more, s.shell.count(1), more < 0 ? 2 : 130);
            }
        }
    }

    public static void main(String[] args) {
        sixtyWithin();
        spentAtTheBound();
        paths();
        spent();
        Session.end();
    }
}
