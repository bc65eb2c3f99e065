/**
 * The document's boundary cases in the order of its words, second part: RUNNING (promises 5, 12). Above each method
 * stands what it tries: at the bound, one below it, one beyond it, empty and full.
 */
public final class RunBoundsTest {
    // Words of 16382 .. 16385 signs, by the variables of big().
    private static final String[] LONG = {"$h$h$g$g", "$h$h$h$g", "$h$h$h$h", "$h$h$h${h}1"};
    private static final String D18 = "999999999999999999";
    private static final String D19 = "1000000000000000000";

    private static void due(String what, Object got, Object want) {
        Session.due(what, got, want);
    }

    private static void runs(String text, String want) {
        Session.runs(text, want);
    }

    private static String times(String text, int n) {
        return text.repeat(n);
    }

    /** A script on a shell in which h has 4096 signs, g one less: that costs no WORK. */
    private static void big(String text, String want) {
        Session s = new Session();
        s.put(0, "h", times("1", 4096));
        s.put(0, "g", times("1", 4095));
        due(text, s.run(text), want);
    }

    // "? the last STATUS (0 .. 255)"; return, exit, "perhaps a number (lowest 8 bits)"
    private static void statuses() {
        for (String n : new String[] {"0", "1", "-1", "127", "128", "254", "255", "256", "257", "-255", "-256", "-257", "65535", "-0", "007", "000000000000000256", D18, "-" + D18}) {
            long status = Long.parseLong(n) & 255;
            runs("exit " + n, "?" + status);
            runs("return " + n + "; echo no", "?" + status);
            runs("(exit " + n + "; echo no); echo $?; f() { return " + n + "; echo no; }; f; echo $?; echo return " + n + " > s; . ./s; echo $?; echo $(exit " + n + ")$?; ! (exit " + n + "); echo $?",
                status + "\n" + status + "\n" + status + "\n0\n" + (status == 0 ? 1 : 0) + "\n?0");
        }
        for (String n : new String[] {"''", "-", "+1", "--1", "a", "1a", "' 1'", "'1 '", "0x1", "1 2", D19, "-" + D19, "0000000000000000001"}) {
            for (String command : new String[] {"exit", "return", "break", "continue", "shift"}) {
                runs(command + " " + n + "; echo no", "?2");
                runs("for i in 1 2; do (" + command + " " + n + "; echo no); echo $?; done", "2\n2\n?0");
            }
        }
        runs("exit", "?0");
        runs("false; exit", "?1");
        runs("f() { return; }; false; f; echo $?; (exit 9); (exit); echo $?", "1\n9\n?0");
        runs("nothing; echo $?; > n/n; echo $?; (echo ${u?}); echo $?", "127\n1\n2\n?0");
    }

    // "break, continue, perhaps a number above 0 (.. all if it is greater; nothing outside of one)"
    private static void loops() {
        String loops = "for i in 1 2; do j=; while [ ${#j} -lt 2 ]; do j=${j}1; until false; do echo $i$j; %; echo no; done; echo b$j; done; echo c; done; echo d";
        runs(loops.replace("%", "break"), "11\nb1\n111\nb11\nc\n21\nb1\n211\nb11\nc\nd\n?0");
        runs(loops.replace("%", "break 1"), "11\nb1\n111\nb11\nc\n21\nb1\n211\nb11\nc\nd\n?0");
        runs(loops.replace("%", "break 2"), "11\nc\n21\nc\nd\n?0");
        for (String n : new String[] {"3", "4", "5", "0003", D18}) {
            runs(loops.replace("%", "break " + n), "11\nd\n?0");
            runs(loops.replace("%", "continue " + n), "11\n21\nd\n?0");
        }
        runs(loops.replace("%", "continue 2"), "11\n111\nc\n21\n211\nc\nd\n?0");
        for (String n : new String[] {"0", "-1", "-0", "00"}) {
            runs(loops.replace("%", "break " + n), "11\n?2");
            runs(loops.replace("%", "continue " + n), "11\n?2");
            runs("break " + n + "; echo no", "?2");
        }
        runs("break; break 1; break " + D18 + "; continue; continue 2; echo ok", "ok\n?0");
        runs("for i in 1 2; do (break; echo a); f() { break; continue 2; echo b; }; f; echo 'break; echo c' > s; . ./s; { break; echo no; } | cat; break & done; echo $i", "a\nb\nc\nno\na\nb\nc\nno\n2\n?0");
        // "the status of a loop is that of the last list done in it, 0 without"
        runs("false; while false; do :; done; echo $?; false; until :; do :; done; echo $?; false; for i in; do :; done; echo $?; false; for i do :; done; echo $?", "0\n0\n0\n0\n?0");
        runs("for i in a; do (exit 3); done; echo $?; n=; while [ ${#n} -lt 1 ]; do n=${n}1; (exit 4); done; echo $?; n=; until [ ${#n} -ge 2 ]; do n=${n}1; (exit 1${#n}); done; echo $?", "3\n4\n12\n?0");
        runs("false; if false; then :; fi; echo $?; false; if false; then :; elif false; then :; fi; echo $?; false; case a in b) false;; esac; echo $?; false; case a in esac; echo $?; false; case a in a) ;; esac; echo $?; false; eval; echo $?", times("0\n", 6) + "?0");
    }

    // set, shift "0 .. #", unset, readonly, export: empty, full, refused
    private static void parameters() {
        for (int n = 0; n <= 3; n++) {
            for (int by = -1; by <= 4; by++) {
                runs("set -- " + "a b c ".substring(0, 2 * n) + "; shift " + by + "; echo $#", by < 0 || by > n ? "?2" : n - by + "\n?0");
            }
            runs("set -- " + "a b c ".substring(0, 2 * n) + "; shift; echo $#", n == 0 ? "?2" : n - 1 + "\n?0");
            runs("set -- " + "a b c ".substring(0, 2 * n) + "; echo $# \"$*\" $*; for i do echo $i; done; for i in \"$@\"; do echo \"<$i>\"; done; echo ${#@}${#*} ${@-none}",
                n == 0 ? "0 \n00 none\n?0" : n + " " + "a b c".substring(0, 2 * n - 1) + " " + "a b c".substring(0, 2 * n - 1) + "\n" + "a\nb\nc\n".substring(0, 2 * n) + "<a>\n<b>\n<c>\n".substring(0, 4 * n) + n + n + " " + "a b c".substring(0, 2 * n - 1) + "\n?0");
        }
        runs("set a; set; echo $#; set ''; echo $# \"$1\"; set --; echo $#; set -- --; echo $# $1; set -- -e; echo $-$1; set a -e +; echo $# $3; set +; echo no", "1\n1 \n0\n1 --\n-e\n3 +\n?2");
        for (String wrong : new String[] {"-", "+", "-x", "+x", "-ex", "-E", "-e-", "--e", "---", "+-", "-e+", "+-e", "-e -", "-e -x", "-f +g a b", "-1"}) {
            Session s = new Session();
            due("set " + wrong, s.run("set p q; set " + wrong + "; echo no"), "?2");
            due("nothing set: " + wrong, s.run("echo $# $1 $2 [$-]"), "2 p q []\n?0");
        }
        for (String right : new String[] {"-e", "-f", "-u", "-ef", "-ufe", "-e -f -u", "-ee", "-eff"}) {
            String letters = (right.contains("e") ? "e" : "") + (right.contains("f") ? "f" : "") + (right.contains("u") ? "u" : "");
            runs("set p; set " + right + "; echo $- $#; set " + right.replace('-', '+') + "; echo $-$#; set " + right + " --; echo $-$#", letters + " 1\n1\n" + letters + "0\n?0");
        }
        runs("set -e +e -f -u +u; echo $-; set -fu +f-; echo no", "f\n?2");
        runs("unset; unset -f; unset nothing; unset -f nothing; readonly; export; echo $?; unset x -f; echo no", "0\n?2");
        for (String wrong : new String[] {"unset ''", "unset 1", "unset a-b", "unset x=1", "unset -f ''", "unset -v", "unset -F f", "readonly ''", "readonly =", "readonly 1=2", "readonly -p", "export =1", "export a b c- d", "unset r", "unset x r y", "readonly r=2", "export r=", "readonly r=1"}) {
            Session s = new Session();
            s.run("readonly r=1");
            due(wrong, s.run(wrong + "; echo no"), "?2");
            due(wrong + ": r", s.ask(0, "r"), "1");
        }
        Session s = new Session();
        due("read-only and empty", s.run("readonly a; readonly b=; c=; readonly c; d=1; readonly d d; export e f=; echo ${a-u}${b-u}${c-u}$d${e-u}${f-u}"), "1u\n?0");
        due("variables", s.shell.count(5), 5);
        due("read-only ones", s.shell.count(6), 4);
    }

    // "a plain ~ at its beginning .. with the end or a plain / behind it: HOME's value, quoted, if HOME is set"
    private static void tildes() {
        String show = "; for i in ~ ~/ ~/a ~a ~~ a~ '~' \\~ \"~\"/ ~\\/ ~'' ~$u; do echo \"<$i>\"; done";
        String rest = "<~a>\n<~~>\n<a~>\n<~>\n<~>\n<~/>\n<~/>\n<~>\n<~>\n?0";
        runs(":" + show, "<~>\n<~/>\n<~/a>\n" + rest);
        runs("HOME=" + show, "<>\n</>\n</a>\n" + rest);
        runs("HOME=h" + show, "<h>\n<h/>\n<h/a>\n" + rest);
        runs("HOME='a * b'" + show, "<a * b>\n<a * b/>\n<a * b/a>\n" + rest);
        runs("cd; echo $?; HOME=; cd; echo $?; HOME=/; cd; echo $?; unset HOME; cd; echo $?", "1\n1\n0\n1\n?0");
    }

    // ${P-w} and its kin: unset, empty, one sign; each with and without :
    private static void substitutes() {
        String[] states = {"unset x", "x=", "x=v"};
        String[] forms = {"-", ":-", "=", ":=", "?", ":?", "+", ":+"};
        for (int state = 0; state < 3; state++) {
            for (String form : forms) {
                boolean has = state == 2 || state == 1 && !form.startsWith(":");
                String own = state == 2 ? "v" : "";
                char kind = form.charAt(form.length() - 1);
                for (String w : new String[] {"", "w"}) {
                    String value = kind == '+' ? has ? w : "" : has ? own : w;
                    String then = kind == '=' && !has ? w : own;
                    boolean isSet = state > 0 || kind == '=';
                    runs(states[state] + "; echo \"<${x" + form + w + "}>\" ${x-unset}.", kind == '?' && !has ? "?2" : "<" + value + "> " + (isSet ? then : "unset") + ".\n?0");
                }
            }
        }
        String[] parameters = {"set --", "set ''", "set '' ''", "set a", "set '' a"};
        String[] joined = {"", "", " ", "a", " a"};
        for (int n = 0; n < parameters.length; n++) {
            for (String p : new String[] {"@", "*"}) {
                for (String form : forms) {
                    boolean has = n > 2 || n > 0 && !form.startsWith(":");
                    char kind = form.charAt(form.length() - 1);
                    String value = kind == '+' ? has ? "w" : "" : has ? joined[n] : kind == '-' ? "w" : null;
                    runs(parameters[n] + "; x=\"${" + p + form + "w}\"; echo \"<$x>\"", value == null ? "?2" : "<" + value + ">\n?0");
                }
            }
        }
        // w and the value are not looked at where they aren't needed.
        runs("x=v; echo ${x-$((1/0))}${x=$((1/0))}${x?$((1/0))}${u+$((1/0))}${u%$((1/0))}${u##$((1/0))}.", "vvv.\n?0");
        runs("echo ${u?$(echo a >&2)}", "?2");
        runs("echo ${1=$(echo a >&2)}", "?2");
        runs("readonly x; echo ${x:=$(echo a >&2)}", "[2]a\n?2");
        // Option u.
        for (String fine : new String[] {"$@", "$*", "\"$@\"", "${@}", "${#@}", "${#*}", "$#", "$?", "$-", "$$", "$0", "${u-}", "${u=}", "${u+}", "${u:-}", "$((v))", "${#-}"}) {
            runs("set -u; : " + fine + "; echo ok", "ok\n?0");
        }
        for (String wrong : new String[] {"$u", "${u}", "\"$u\"", "${#u}", "${u%a}", "${u%%a}", "${u#a}", "${u##a}", "$1", "${1}", "${12}", "$(($u))"}) {
            runs("set -u; : " + wrong + "; echo no", "?2");
            runs(": " + wrong + "; echo ok", "ok\n?0");
        }
    }

    // "without the shortest end that w matches .., %% the longest, # ## beginnings"
    private static void cuts() {
        String[][] rows = {{"", ""}, {"", "*"}, {"", "a"}, {"", "?"}, {"a", ""}, {"a", "a"}, {"a", "b"}, {"a", "*"}, {"a", "?"}, {"a", "??"}, {"aa", "a"}, {"aa", "a*"}, {"aa", "*a"}, {"aa", "?"}, {"aba", "a*"}, {"aba", "*a"}, {"aba", "[ab]"}, {"aba", "b"}, {"aba", "aba"}, {"aba", "aba?"}};
        for (String[] row : rows) {
            String v = row[0];
            String regex = row[1].replace("*", "[ab]*").replace("?", ".");
            String[] due = {v, v, v, v};
            for (int i = 0; i <= v.length(); i++) {
                // The last one that fits stands: for %% and # the longest ends are tried first, for % and ## last.
                if (v.substring(i).matches(regex)) {
                    due[0] = v.substring(0, i);
                }
                if (v.substring(v.length() - i).matches(regex)) {
                    due[1] = v.substring(0, v.length() - i);
                }
                if (v.substring(0, v.length() - i).matches(regex)) {
                    due[2] = v.substring(v.length() - i);
                }
                if (v.substring(0, i).matches(regex)) {
                    due[3] = v.substring(i);
                }
            }
            runs("x=" + v + "; echo \"<${x%" + row[1] + "}><${x%%" + row[1] + "}><${x#" + row[1] + "}><${x##" + row[1] + "}>\"", "<" + due[0] + "><" + due[1] + "><" + due[2] + "><" + due[3] + ">\n?0");
        }
    }

    // Special parameters have no row of their own: w may name others.
    private static void specialCuts() {
        runs("set a b; echo ${0%$#} ${0#$((5))} ${0%h$u} ${#%$((2))}. ${?%${#}} ${-#$?}. ${$%$#} ${$#1}. ${0##${?}*}", "sh sh s . 0 . 1 . sh\n?0");
        runs("set -f a b c; echo ${-%${#%3}}. ${-#${0#s}} ${?#${-%f}0}. ${0%%${#}$?} ${#1} ${0:+${0%h}} ${0:-$#}", "f. f . sh 1 s sh\n?0");
    }

    // "what the script writes to its output, without newlines at its end"; "holds 16384 bytes, what is more is lost"
    private static void substitutions() {
        for (String written : new String[] {"", "\\n", "\\n\\n\\n", "a", "a\\n", "a\\n\\n\\n", "\\na", "\\n\\na\\n", "a\\n\\nb\\n", " \\n", "a \\n"}) {
            String text = written.replace("\\n", "\n");
            while (text.endsWith("\n")) {
                text = text.substring(0, text.length() - 1);
            }
            runs("echo \"<$(printf '" + written + "')><`printf '" + written.replace("\\", "\\\\") + "'`>\"", "<" + text + "><" + text + ">\n?0");
        }
        for (int i = 0; i < 4; i++) {
            int length = Math.min(16384, 16382 + i);
            String kept = i < 2 ? "z" : "1";
            big("x=$(printf %s " + LONG[i] + "; echo z); echo ${#x}; case $x in *z) echo z;; *) echo 1; esac", i == 3 ? "0\n1\n?0" : Math.min(16384, 16383 + i) + "\n" + kept + "\n?0");
            big("printf %s " + LONG[i] + " | wc -c; printf '%s\\n' " + LONG[i] + " | wc -l", i == 3 ? "0\n0\n?0" : length + "\n" + (i < 2 ? 1 : 0) + "\n?0");
            big("{ printf %s " + LONG[Math.min(i, 2)] + "; printf abc; echo e >&2; } | { read x; echo $? ${#x}; case $x in *ab) echo ab;; *a) echo a;; *) echo 1; esac; }", "1 16384\n" + (i == 0 ? "ab" : i == 1 ? "a" : "1") + "\n[2]e\n?0");
        }
    }

    // IFS: unset, empty, each kind of sign; empty fields
    private static void fields() {
        String show = "; set -- $x; echo $#; for i do printf '<%s>' \"$i\"; done";
        String[][] rows = {{"unset IFS; x=", "0\n"}, {"unset IFS; x=' '", "0\n"}, {"unset IFS; x=' a '", "1\n<a>"}, {"unset IFS; x='a  b'", "2\n<a><b>"}, {"IFS=; x=' a  b '", "1\n< a  b >"}, {"IFS=; x=", "0\n"}, {"IFS=:; x=", "0\n"}, {"IFS=:; x=:", "1\n<>"},
            {"IFS=:; x=::", "2\n<><>"}, {"IFS=:; x=a", "1\n<a>"}, {"IFS=:; x=a:", "1\n<a>"}, {"IFS=:; x=:a", "2\n<><a>"}, {"IFS=:; x=a::b", "3\n<a><><b>"}, {"IFS=:; x='a b'", "1\n<a b>"}, {"IFS=:; x=' : '", "2\n< >< >"}, {"IFS=': '; x=' : '", "1\n<>"}, {"IFS=': '; x='  '", "0\n"},
            {"IFS=': '; x='a : b'", "2\n<a><b>"}, {"IFS=': '; x='a :: b'", "3\n<a><><b>"}, {"IFS=': '; x='a : : b'", "3\n<a><><b>"}, {"IFS=': '; x=' a: '", "1\n<a>"}, {"IFS=': '; x='a b :'", "2\n<a><b>"}, {"IFS=': '; x='a : '", "1\n<a>"}, {"IFS='\t\n'; x='a b\t\n'", "1\n<a b>"}};
        for (String[] row : rows) {
            runs(row[0] + show, row[1] + "?0");
        }
        runs("for i in $u '' \"$u\" $u$u ''$u; do echo x; done", "x\nx\nx\n?0");
        runs("IFS=; set a b; echo \"$*\" \"$@\"; x=$*; IFS=-; echo \"$x\" \"$*\"; unset IFS; echo \"$*\"", "ab a b\nab a-b\na b\n?0");
        // 2000 fields of one command, of for: the name is one of them.
        runs("IFS=:; x=" + times(":", 1999) + "; : $x; echo ok; : $x a; echo no", "ok\n?2");
        runs("IFS=:; x=" + times(":", 1998) + "; : $x a; for i in $x a b; do j=$i; done; echo $j; for i in $x a b c; do echo no; done; echo no", "b\n?2");
        runs("IFS=:; x=" + times(":", 2000) + "; for i in $x; do :; break; done; echo ok; : $x; echo no", "ok\n?2");
        runs("IFS=:; x=" + times(":", 2001) + "; y=$x; echo ok; case $x in $x) echo two; esac; : \"$x\"; for i in $x; do echo no; done; echo no", "ok\ntwo\n?2");
        runs("IFS=:; x=" + times(":", 1990) + "; f() { set $x 1 2 3 4 5 6 7 8 9; echo $#; set $x 1 2 3 4 5 6 7 8 9 10; echo no; }; (f 1 2 3); echo $?", "1999\n2\n?0");
    }

    // path names: none that match, one, hidden ones, empty parts; "itself (without quotes) if none does"
    private static void pathNames() {
        runs("echo * ? [a] \"a\"* \\**", "* ? [a] a* **\n?0");
        runs("mkdir d; echo * */ */* d/* /* //d /d/ /*/ */. */.. .* ./* */", "d d/ */* d/* /d //d /d/ /d/ d/. d/.. .* ./d d/\n?0");
        runs("> .a; > .b; echo * .* .? .[!a] ?a [.]a .a*", ".a .b .a .b .b ?a [.]a .a\n?0".replace(".a .b .a .b .b ?a [.]a .a", "* .a .b .a .b .b ?a [.]a .a"));
        runs("> a; > b; set -f; echo * ?; set +f; echo * ?; x='*'; echo $x \"$x\"; y=$x; echo \"$y\"; for i in ?; do echo $i; done", "* ?\na b a b\na b *\n*\na\nb\n?0");
        runs("> a; echo a/* a/ /a*/ a*/. /*a /a*", "a/* a/ /a*/ a*/. /a /a\n?0");
        runs("> '['; > '[a'; > ']'; > '-'; echo [ [a [[] []] [-] [!]] [a]", "[ [a [ ] - - [ [a]\n?0".replace("- - [ [a]", "- - [ [a]"));
    }

    // "[ ] one of its characters, a-z ranges, with ! first none of these; a ] first is one; a [ without ] is itself"
    private static void patterns() {
        String[][] fits = {{"", ""}, {"", "*"}, {"", "**"}, {"a", "?"}, {"a", "*?"}, {"ab", "*"}, {"ab", "??"}, {"[", "["}, {"[]", "[]"}, {"[!]", "[!]"}, {"]", "[]]"}, {"-", "[-]"}, {"-", "[a-]"}, {"-", "[!a]"}, {"!", "[a!]"}, {"a", "[a-a]"}, {"!", "[!a]"}, {"b", "[!a!]"}, {"b", "[a-c]"}, {"a", "[a-c]"}, {"c", "[a-c]"}, {"]", "[]-a]"}, {"a", "[]-a]"}, {"^", "[]-a]"}, {"b", "[!]-a]"}, {"*", "[*]"}, {"?", "\\?"}};
        String[][] fitsNot = {{"a", ""}, {"", "?"}, {"a", "??"}, {"ab", "?"}, {"", "[a]"}, {"a", "[!a]"}, {"", "[!a]"}, {"ab", "[ab]"}, {"!", "[!!]"}, {"d", "[a-c]"}, {"`", "[a-c]"}, {"b", "[c-a]"}, {"a", "[c-a]"}, {"]", "[!]]"}, {"b", "[]-a]"}, {"\\\\", "[]-a"}, {"a", "\\*"}, {"x", "'?'"}, {"b", "[a'-'c]"}, {"a", "[\\!a"}};
        for (String[] pair : fits) {
            runs("x='" + pair[0] + "'; case $x in " + (pair[1].isEmpty() ? "''" : pair[1]) + ") echo fits;; esac", "fits\n?0");
        }
        for (String[] pair : fitsNot) {
            runs("x='" + pair[0] + "'; case $x in " + (pair[1].isEmpty() ? "''" : pair[1]) + ") echo fits;; esac", "?0");
        }
    }

    // ARITHMETIC: "64 bits, goes round"; "nothing but blanks: 0"; "by the lowest 6 bits"; "dividing by 0"
    private static void sums() {
        String most = "9223372036854775807";
        String least = "-9223372036854775808";
        String[][] rows = {{"", "0"}, {" ", "0"}, {"\t\n", "0"}, {most, most}, {most + "+1", least}, {least, least}, {least + "-1", most}, {"-" + most + "-1", least}, {"-(" + least + ")", least}, {"9223372036854775808", least}, {"9223372036854775809", "-" + most}, {"18446744073709551615", "-1"}, {"18446744073709551616", "0"}, {"18446744073709551617", "1"},
            {"0x7fffffffffffffff", most}, {"0x8000000000000000", least}, {"0xffffffffffffffff", "-1"}, {"0x10000000000000000", "0"}, {"0777777777777777777777", most}, {"01000000000000000000000", least}, {"01777777777777777777777", "-1"}, {"02000000000000000000000", "0"}, {most + "*2", "-2"}, {least + "*-1", least}, {least + "/-1", least}, {least + "%-1", "0"}, {least + "/1", least}, {most + "*" + most, "1"},
            {"1<<62", "4611686018427387904"}, {"1<<63", least}, {"1<<64", "1"}, {"1<<65", "2"}, {"1<<-1", least}, {"1<<-64", "1"}, {"1<<127", least}, {least + ">>63", "-1"}, {least + ">>64", least}, {"-1>>1", "-1"}, {"-1>>-1", "-1"}, {most + ">>62", "1"}, {most + ">>63", "0"}, {most + "<<1", "-2"}, {"~" + most, least}, {"~0", "-1"}, {"!0", "1"}, {"!1", "0"}, {"!" + least, "0"},
            {"7/2", "3"}, {"-7/2", "-3"}, {"7/-2", "-3"}, {"-7/-2", "3"}, {"7%2", "1"}, {"-7%2", "-1"}, {"7%-2", "1"}, {"1/2", "0"}, {"-1/2", "0"}, {"0/5", "0"}, {"0%5", "0"}, {"00", "0"}, {"07", "7"}, {"010", "8"}, {"0x0", "0"}, {"0xF", "15"}, {"0&&1/0", "0"}, {"1||1%0", "1"}, {"1?0:1/0", "0"}, {"0?1%0:0", "0"}};
        for (String[] row : rows) {
            runs("echo $((" + row[0] + "))", row[1] + "\n?0");
            if (row[0].matches("-?[0-9a-fx]+")) {
                runs("x=" + row[0] + "; echo $((x)) $(( x )) $((x+0))", row[1] + " " + row[1] + " " + row[1] + "\n?0");
            }
        }
        for (String wrong : new String[] {"1/0", "1%0", "0/0", "x/=0", "x%=0", least + "/0", "0x", "08", "1+", "()", "1 2", "x y", "2=1", "1?2", "1:2", "=1"}) {
            runs("echo $((" + wrong + ")); echo no", "?2");
        }
        for (String value : new String[] {"", "0", "-0", "-5", "010", "-010", "0x1f", "-0x1f", D19, "99999999999999999999"}) {
            runs("x=" + value + "; echo $((x+1))", (value.isEmpty() ? 1 : value.contains("x") ? value.startsWith("-") ? -30 : 32 : value.endsWith("010") ? value.startsWith("-") ? -7 : 9 : new java.math.BigInteger(value).longValue() + 1) + "\n?0");
        }
        for (String value : new String[] {"-", "+1", "--1", "' 1'", "'1 '", "1a", "08", "0x", "1+1", "x", "'(1)'", "1.0"}) {
            runs("x=" + value + "; echo $((x)); echo no", "?2");
            runs("x=" + value + "; echo $((0&&x)) $((x=2)) $x", "0 2 2\n?0");
        }
        for (String[] way : new String[][] {{"(", ")"}, {"- ", ""}, {"+ ", ""}, {"!", ""}, {"~", ""}, {"x=", ""}, {"0?1:", ""}, {"1?", ":2"}, {"x+=", ""}, {"-(", ")"}}) {
            int n = way[0].equals("-(") ? 20 : 40;
            String end = times("(: $((" + times(way[0], n - 1) + "1" + times(way[1], n - 1) + "))); echo $?", 1);
            runs(end, "0\n?0");
            runs(end.replace(way[0] + "1" + way[1], way[0] + way[0] + "1" + way[1] + way[1]), "0\n?0");
            runs(end.replace(way[0] + "1" + way[1], way[0] + way[0] + way[0] + "1" + way[1] + way[1] + way[1]), "2\n?0");
        }
    }

    // "what one word (w, a, body) comes to, before it is split, of 16384 characters"
    private static void longWords() {
        String[] words = {": %", ": \"%\"", "x=%", "x=\"%\"", ": > %", ": < %", "case % in a) ;; esac", "case a in %) ;; esac", "for i in %; do :; done", ": ${u-%}", ": \"${u-%}\"", ": ${u=%}", ": ${h+%}", ": ${u:=%}",
            ": ${h#%}", ": ${h%%%}", ": $((%))", "(set %)", "f() { :; }; f %", ": $(:)%''\"\"$u", ": ${u-%}${u-}", "cat < /dev/null <<E > /dev/null\n$u%\nE\n"};
        for (int i = 0; i < 4; i++) {
            for (String word : words) {
                String text = word.replace("%%%", "%%" + LONG[i]).replace("#%", "#" + LONG[i]);
                text = text.contains(LONG[i]) ? text : text.replace("%", LONG[i]);
                // A body has its newline, too; no file can have such a name.
                int most = word.contains("<<E") ? 1 : 2;
                big("(" + text + "\n); echo $?", (i > most ? 2 : word.matches(": [<>] %") ? 1 : 0) + "\n?0");
            }
        }
        // The characters that part parameters count.
        big("set $h$h $h$g; : $@; : $*; : \"$@\"; : \"$*\"; x=$*; x=$@; echo ok", "ok\n?0");
        for (String word : new String[] {": $@", ": $*", ": \"$@\"", ": \"$*\"", "x=$*", "x=\"$@\"", "x=$@", ": ${u-$@}", "case $* in a) esac", "cat <<E > /dev/null\n$u$*\nE\n"}) {
            big("set $h$h $h$h; (" + word + "\n); echo $?", "2\n?0");
        }
        for (String word : new String[] {": \"$*\"", "x=$*", "x=\"$*\"", ": ${u-$*}", "case $* in a) esac"}) {
            big("IFS=; set $h$h $h$h; (" + word + "\n); echo $?", "0\n?0");
            big("IFS=; set $h$h $h$h; (" + word.replace("$*", "$*1") + "\n); echo $?", "2\n?0");
        }
        for (String word : new String[] {": $@", ": $*", ": \"$@\"", "x=$@", "x=\"$@\""}) {
            big("IFS=; set $h$h $h$h; (" + word + "\n); echo $?", "2\n?0");
        }
    }

    public static void main(String[] args) {
        statuses();
        loops();
        parameters();
        tildes();
        substitutes();
        cuts();
        specialCuts();
        substitutions();
        fields();
        pathNames();
        patterns();
        sums();
        longWords();
        Session.end();
    }
}
