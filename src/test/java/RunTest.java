/** Promise 5, running: commands, redirections, pipelines, compounds, functions, errors, special commands, bounds. */
public final class RunTest {
    private static void runs(String text, String want) {
        Session.runs(text, want);
    }

    private static String times(String text, int n) {
        StringBuilder all = new StringBuilder();
        for (int i = 0; i < n; i++) {
            all.append(text);
        }
        return all.toString();
    }

    private static void simpleCommands() {
        runs("nothing a; echo $?; ./f; echo $?; /f", "127\n127\n?127");
        runs("'' a; echo $?; \"$@\" echo b", "127\nb\n?0");
        runs("x=1 nothing; echo .$x; x=1; x=2 true; echo $x; x=3 y=4 eval 'echo $x'; echo $x$y", ".\n1\n3\n34\n?0");
        runs("f() { echo $x; }; x=1 f; echo $x; x=5 x=6 echo a; echo $x; x=7 read x y <<E\nq r\nE\necho $x $y", "1\n1\na\n1\n1 r\n?0");
        runs("x=1 y=$x z=$((y+1)); echo $x$y$z; x=a x=${x}b; echo $x", "112\nab\n?0");
        runs("x=1; x=2 echo $x; x=3 > f$x; ls; echo $x", "1\nf1\n3\n?0");
        runs("x=5 > d/f; echo $? .$x; x=5 echo a > d/f; echo $? .$x", "1 .\n1 .\n?0");
        runs("x=1 y=$((1/0)) true; echo no", "?2");
        Session s = new Session();
        s.run("a=1; a=2 y=$((1/0)) true; echo no");
        Session.due("what was lent comes back behind an error", s.ask(0, "a"), "1");
        s.run("b=2 c=$((1/0)); echo no");
        Session.due("an assignment that was done stays", s.ask(0, "b"), "2");
        runs("cmd='echo a b'; $cmd c; e=echo; $e d; $u echo e", "a b c\nd\ne\n?0");
        runs("eval() { echo no; }; eval echo yes; echo() { printf '%s!' \"$@\"; }; echo a; unset -f echo; echo b", "yes\na!b\n?0");
        runs("> f; echo $?; ls; > f > g; ls; <h; echo $?; x=1 <h; echo .$x", "0\nf\nf\ng\n1\n.\n?0");
        runs(": $(echo a > f) > f; cat f; echo b > $(echo a >> f; echo f); cat f", "b\n?0");
        runs("echo $(echo w >&2) > f$(echo r >&2) < f; x=$(echo a >&2) : > g$(echo r >&2)", "[2]w\nr\nr\na\n?0");
    }

    private static void redirections() {
        runs("echo a > f; echo b >> f; echo c >> g; cat f g; echo d > f; cat < f", "a\nb\nc\nd\n?0");
        runs("echo a 3> f; echo $?; ls; echo b 9< f; echo $?; cat 3<<E\nE\necho $?; echo c 2>&3; echo $?", "1\n1\n1\n1\n?0");
        runs("echo a >&2; echo b 2>&1; { echo c >&2; } 2>&1; echo d 1>&2 2>&1", "b\nc\n[2]a\nd\n?0");
        runs("echo a >& 1 >&-; echo $?; { echo b; echo c >&2; } 2>&1 >&-; echo d", "0\nc\nd\n?0");
        runs("{ echo a >&1; echo b; } >&-; echo $?; cat <&-; echo $?; { echo c 1>&0; } ; echo $?", "0\n0\n0\n?0");
        runs("{ echo a 2>&1; } >&-; echo b >&-; { echo c >&1; echo $? >&2; } >&-", "[2]1\n?0");
        runs("echo a >&f; echo $?; echo a >&; echo", "fault 1 line 1");
        runs("echo a >&f; echo $?; echo a >&''; echo $?; echo a >&-1; echo $?; echo a >&11; echo $?; cat <&9; echo $?", "1\n1\n1\n1\n1\n?0");
        runs("echo abc > f; { read x; echo $x; cat; echo y >&0; } < f; cat f", "abc\nabc\n?0");
        runs("printf 'a\\nb\\n' > f; { read x; read y <&0; echo $x$y; } < f; exec=1; { cat <&1; echo z; } > g; cat g", "ab\nz\n?0");
        runs("cat < nofile; echo $?; cat < /; echo $?; mkdir d; echo > d; echo $?; echo > d/; echo $?; echo > n/f; echo $?; echo > g/; echo $?; ls", "1\n1\n1\n1\n1\n1\nd\n?0");
        runs("echo a > f > n/g; echo $?; cat f; echo b > n/g > h; ls; : > n/g || echo special", "1\nf\nspecial\n?0");
        runs("shift 9 > n/g; echo $?; x=1 > n/g; echo $? .$x", "1\n1 .\n?0");
        runs("echo a > /dev/null; cat /dev/null; cat < /dev/null; echo b >> /dev/null; cat /dev/null - < /dev/null; echo $?; ls", "1\n?0");
        runs("echo one > f; { rm f; cat; echo $?; } < f; { rm g; echo lost; } > g; ls", "0\n?0");
        runs("{ echo a; > f; echo b; } > f; cat f; { echo a; echo b > f; echo c; } > f; cat f", "b\nb\nc\n?0");
        runs("{ echo a; cat f >&2; echo b; } > f; { cat; echo c >> f; cat; } < f", "a\nb\nc\n[2]a\n?0");
        runs("echo 12345 > f; { read x; > f; echo ab >> f; cat; } < f; cat f", "ab\n?0");
        runs("f() { echo in; } > g; f; cat g; f > h; cat h; cat g", "in\nin\n?0");
        runs("if true; then echo a; fi > f; while read x; do echo \"[$x]\"; done < f; for i in 1 2; do echo $i; done > f; cat f; case a in a) echo c;; esac > f; cat f", "[a]\n1\n2\nc\n?0");
        runs("{ echo a; } > n/f; echo $?; (echo b) < n; echo $?; for i in a; do echo $i; done < n || echo or", "1\n1\nor\n?0");
        runs("(echo a; exit 3) > f; echo $?; cat f; eval 'echo b' > f; cat f; . ./f > g; echo $?", "3\na\nb\n127\n?0");
        runs("x='a b'; echo c > $x; ls; echo d > *; ls; echo e > \"$x\"2", "a b\n*\na b\n?0");
        runs("set a b; echo c > $@; echo d > \"$*\"x; ls", "a b\na bx\n?0");
        runs("cat > f <<A; cat f\nb\nA\ncat << A < f\nno\nA", "b\nb\n?0");
        Session s = new Session();
        s.run("echo a >&2 > f");
        Session.due("from the left", s.ask(1, "/f"), "a\n");
    }

    private static void pipelines() {
        runs("echo a | cat | cat; false | true; echo $?; true | false; echo $?; ! true | true; echo $?; ! false; echo $?; ! exit 3; echo no", "a\n0\n1\n1\n0\n?3");
        runs("x=1 | x=2; echo .$x; echo a | read x; echo .$x; echo b | { read x; echo $x; }; (cd /; x=3) | cd /nowhere; echo $?", ".\n.\nb\n1\n?0");
        runs("echo a b | while read x y; do echo $y; z=$x; done; echo .$z; seq 3 5 | tail -n 1", "b\n.\n5\n?0");
        runs("false; true | echo $?; (exit 4) | echo $?; echo $?", "0\n4\n0\n?0");
        runs("false; echo $? | { cat; echo $?; false; } | { cat; echo $?; exit 3; } | tr a $?; : | nothing | (echo $?)", "1\n0\n0\n127\n?0");
        runs("false | echo \"$(echo $?; exit 5)$?\" | { cat; echo $?; }; (exit 6) | echo a > f$?; ls", "11\n0\nf6\n?0");
        runs("exit 3 | case $? in 3) echo three;; esac; exit 2 & echo $?; false; { echo $?; exit 2; } & echo $?", "three\n0\n1\n0\n?0");
        runs("seq 1 5000 | wc -c; seq 1 4000 | tail -n 1", "16384\n" + tail() + "\n?0");
        runs("printf 'a\\nb\\nc\\n' > f; { cat | read x; read y; echo $y.; read z | cat; } < f; { read x | cat; read y; echo $y; } < f", ".\nb\n?0");
        runs("echo a >&2 | cat; { echo b >&2; } 2>&1 | tr b c; echo d | cat > f; cat f; f() { cat; }; echo e | f", "c\nd\ne\n[2]a\n?0");
        runs("exit 3 | true; echo $?; true | exit 4; echo $?; true | return 5; echo $?; { set -e; false; echo no; } | cat; echo $?", "0\n4\n5\n0\n?0");
        runs("for i in 1 2; do echo $i | break; done; for i in 1 2; do break | true; echo $i; done", "1\n2\n?0");
        runs("true && echo a || echo b; false && echo c || echo d; false || false || echo e; true || echo f && echo g; false && echo h && echo i; echo $?", "a\nd\ne\ng\n1\n?0");
        runs("! false && echo a; ! true || echo b; false | true && echo c", "a\nb\nc\n?0");
    }

    /** The last line of what a pipe keeps of seq 1 4000 (as of more). */
    private static String tail() {
        StringBuilder all = new StringBuilder();
        for (int i = 1; i <= 5000; i++) {
            all.append(i).append('\n');
        }
        String kept = all.substring(0, 16384);
        return kept.substring(kept.lastIndexOf('\n') + 1);
    }

    private static void subshells() {
        runs("x=1; false & echo $?; x=2 & echo $x; echo a & wait=1; { echo b; exit 3; } & echo $?", "0\n1\na\nb\n0\n?0");
        runs("true && echo a && x=1 & echo .$x; false || echo b & cd /n & echo $?; exit 4 & echo $?", "a\n.\nb\n0\n0\n?0");
        String state = "echo $x $y .$u \"$@\" $- ; f; e; pwd; ls";
        runs("mkdir d; x=1; readonly y=2; set a b; f() { echo f1; }; "
            + "(x=2; u=3; set -fu c; f() { echo f2; }; g() { :; }; cd d; unset x; readonly u; touch z; shift; IFS=:); " + state + "; g; u=4; echo $u; ls d",
            "1 2 . a b\nf1\n/\nd\n4\nz\n?0");
        Session s = new Session();
        s.run("(alias a=b; x=1; f() { :; }; readonly r); (x=1; (x=2; unset x); echo $x); $(x=5; echo :); x=6 | y=7; x=8 &");
        Session.due("names that went", s.shell.count(5) + s.shell.count(6) + s.shell.count(7) + s.shell.count(8), 0);
        runs("x=a; (x=b; (x=c; x=d; echo $x); echo $x; y=$(x=e; echo $x); echo $x$y); echo $x$y", "d\nb\nbe\na\n?0");
        runs("set a b c; (shift; set -- \"$@\" q; echo \"$@\"; (set x; echo $1); echo $1); echo $*", "b c q\nx\nb\na b c\n?0");
        runs("(exit 3); echo $?; (exit 3; echo no) || echo $?; (false); echo $?; (return 6); echo $?; (exit); echo $?; false; (exit) || echo or", "3\n3\n1\n6\n0\nor\n?0");
        runs("(echo a; exit 5) | cat; echo $(exit 6)$?; ( ( exit 7 ) ; echo $?)", "a\n0\n7\n?0");
        runs("unalias e 2>/dev/null; (alias e='echo E'; eval 'e 1'); eval 'e 2'; echo $?", "E 1\n127\n?0");
    }

    private static void compounds() {
        runs("if true; then echo a; fi; if false; then echo b; fi; echo $?; if false; then :; elif true; then echo c; else echo d; fi; if false; then :; elif false; then :; else (exit 4); fi; echo $?", "a\n0\nc\n4\n?0");
        runs("if false; true; then echo a; fi; if (exit 3); then :; else echo $?; fi; if ! true; then :; fi; echo $?", "a\n3\n0\n?0");
        runs("while false; do :; done; echo $?; i=0; while [ $i -lt 3 ]; do i=$((i+1)); (exit $i); done; echo $?; until true; do :; done; echo $?", "0\n3\n0\n?0");
        runs("while true; do false; break; done; echo $?; for i in 1; do false; continue; done; echo $?; for i in; do false; done; echo $?; for i in a b; do echo $i; false; done; echo $? $i", "0\n0\n0\na\nb\n1 b\n?0");
        runs("for i in 1 2 3; do for j in 1 2 3; do case $i$j in 12) continue;; 21) continue 2;; 32) break 2;; esac; echo $i$j; done; done; echo $i$j", "11\n13\n31\n32\n?0");
        runs("for i in 1 2; do for j in 1 2; do echo $i$j; break 9; done; done; for i in 1 2; do for j in 1 2; do echo $i$j; continue 9; done; done", "11\n11\n21\n?0");
        runs("while break; do echo no; done; echo $?; i=0; while i=$((i+1)); [ $i -lt 3 ] || break; continue; do :; done; echo $i; until break; do :; done", "0\n3\n?0");
        runs("break; echo $?; continue 5; echo $?; f() { break; echo f; }; for i in 1 2; do f; (break; echo sub); eval break; echo no; done; echo $i", "0\n0\nf\nsub\n1\n?0");
        runs("break 0; echo no", "?2");
        runs("break a; echo no", "?2");
        runs("continue -1; echo no", "?2");
        runs("break 1 2; echo no", "?2");
        runs("for i in 1 2; do break 1 2; done; echo no", "?2");
        runs("break 1234567890123456789; echo no", "?2");
        runs("break 999999999999999999; echo yes", "yes\n?0");
        runs("set a 'b c'; for i; do echo $i; set x; done; for i do echo $i; done; for i in $@ \"$@\"; do echo $i; done", "a\nb c\nx\nx\nx\n?0");
        runs("readonly i; for i in a; do echo no; done; echo no", "?2");
        runs("readonly i; for i in; do :; done; echo $?", "0\n?0");
        runs("x=abc; case $x in a) echo 1;; a*|b) echo 2;; *) echo 3;; esac; case $x in z) ;; esac; echo $?; case $x in abc) ;; esac; echo $?; case $x in *) false;; esac; echo $?", "2\n0\n0\n1\n?0");
        runs("false; case a in a) ;; esac; echo $?; case a in $(echo a; echo x >&2)|$(echo y >&2)) echo m;; $(echo z >&2)) ;; esac", "0\nm\n[2]x\n?0");
        runs("x='a b'; case $x in 'a b') echo 1; esac; case '' in '') echo 2; esac; case $u in '') echo 3; esac; case a in \"\"a) echo 4; esac", "1\n2\n3\n4\n?0");
        runs("{ echo a; false; }; echo $?; { :; } | cat; (echo b; { exit 3; }); echo $?", "a\n1\nb\n3\n?0");
    }

    /** A text so many times, with its number for # . */
    private static String counted(String text, int n) {
        StringBuilder all = new StringBuilder();
        for (int i = 0; i < n; i++) {
            all.append(text.replace("#", String.valueOf(i)));
        }
        return all.toString();
    }

    /** What was within something is not within it any more behind it. */
    private static void behindThings() {
        runs("> e; f() { :; }; i=0; while [ $i -lt 70 ]; do i=$((i+1)); : & x=$(:); f; eval :; . ./e; : ${u-a} ${i%a} $((1)) ${i:+a} ${x:=}; unset x; { :; }; :|:; (:); (eval ')'); "
            + "if :; then :; fi; for j in a; do :; done; case a in a) ;; esac; done; echo $i", "70\n?0");
        runs("while false; do :; done; break; echo a; for i in a; do :; done; break; echo b; continue; echo c; while :; do . ./none; done; echo d", "a\nb\nc\n?2");
        runs("> e; while :; do . ./e; break; echo no; done; while :; do eval :; break 1; echo no; done; f() { break; }; for i in 1 2; do f; echo $i; done; for i in 1 2; do continue 1; echo no; done; echo ok",
            "1\n2\nok\n?0");
        runs("false; for i in; do :; done; echo $?; false; for i in $u; do :; done; echo $?; false; case a in b) ;; esac; echo $?; false; case a in a) ;; esac; echo $?; false; for i; do :; done; echo $?; for i in a; do false; done; echo $?",
            "0\n0\n0\n0\n0\n1\n?0");
        runs("case a in a) echo 1; echo 2 && echo 3; echo 4 & echo 5;; esac", "1\n2\n3\n4\n5\n?0");
        runs(counted("a#=# ", 20) + "true; echo \"<$a0$a1$a15$a16$a17$a19>\"; a1=b; a1=c a2=d a1=e true; echo $a1 \"$a2\"", "<>\nb \n?0");
        runs("{ echo in; echo err >&2; }" + counted(" > f# 2> g#", 20) + "; echo out; echo e >&2; cat f19 g19; cat f18 g18 f0", "out\nin\nerr\n[2]e\n?0");
        runs("echo a 0> f; cat f; wc -c f; echo b 0< f; cat 0<< E\nc\nE\necho d 1> f; cat f; echo e 2> f", "a\n0\nb\nc\nd\ne\n?0");
        runs("f() { echo f; }; (unset -f f; f); f; (f() { echo g; }; f); f; (unset -f f nothing); f", "f\ng\nf\nf\n?0");
        runs("set a b c; (shift 1 2; echo no); echo $?; (shift x; echo no); echo $?; (shift 4; echo no); echo $?; (shift -1; echo no); echo $?; shift 0; echo $#; shift 3; echo $#; (shift; echo no); echo $?", "2\n2\n2\n2\n3\n0\n2\n?0");
        runs("(readonly =x; echo no); echo $?; (export =x; echo no); echo $?; (export x=1 2=3; echo no); echo $?; (unset a 1; echo no); echo $?", "2\n2\n2\n2\n?0");
        Session s = new Session();
        s.run("echo q > f; { rm f; echo x; } > f; { rm g; echo y; echo z >&2; } >> g 2>> g");
        Session.due("bytes of removed files", s.shell.count(12), 0);
        runs("echo q > f; { rm f; echo x >&2; cat; } < f 2>> f; ls; echo q > f; { echo r >&2; cat; } < f 2>> f", "q\nr\n?0");
    }

    /** Pipelines and subshells leave what was open, and the parameters of those that are around them. */
    private static void leftAsItWas() {
        runs(": | :; echo e >&2; echo o; { : | cat; echo f >&2; } > f; cat f; : | : 2>&1; echo g >&2; : >&2 | :; echo p", "o\np\n[2]e\nf\ng\n?0");
        runs("f() { (:); set x y z; echo $*; }; set a b c d; f q; echo $*; f q r s t u; echo $*", "x y z\na b c d\nx y z\na b c d\n?0");
        runs("f() { g 1; (set p q r; g 2; echo $*); echo $(set s t; g 3; echo $*) $*; : | set v; set w; echo $*; }; g() { (set k l m n o); : & set h i j; shift; echo $*; }; set a b; f c d e; echo $*", "i j\ni j\np q r\ni j s t c d e\nw\na b\n?0");
        runs("f() { shift; (shift; set -- $* z; echo $*); set $* y; echo $*; }; set a b c; shift; f 1 2 3 4; echo $*; (f 5 6; echo $*); echo $*", "3 4 z\n2 3 4 y\nb c\nz\n6 y\nb c\nb c\n?0");
    }

    /** More of each than the rows have that are made at first. */
    private static void many() {
        String set = counted("v#=# ", 40);
        StringBuilder dollars = new StringBuilder();
        StringBuilder numbers = new StringBuilder();
        for (int i = 0; i < 40; i++) {
            dollars.append(" $v").append(i);
            numbers.append(i > 0 ? " " : "").append(i);
        }
        runs(set + "; " + counted("v#=x ", 40) + "true; echo" + dollars, numbers + "\n?0");
        runs(set + "; (" + counted("v#=x; ", 40) + "(" + counted("unset v#; ", 40) + "); echo" + dollars + "); echo" + dollars, times("x ", 39) + "x\n" + numbers + "\n?0");
        runs("(" + counted("f#() { :; }; alias a#=b; readonly r#; ", 30) + "); f0 || f29; echo $?; alias a0 || alias a29; echo $?; r0=1 r29=2; echo $r0$r29", "127\n1\n12\n?0");
        runs("set a b c; f() { echo $#; g x " + numbers + "; echo $*; }; g() { echo $#; set " + numbers + " y; (set " + numbers + " z z; echo $#); echo $#; }; f " + numbers + " p; echo $*",
            "41\n41\n42\n41\n" + numbers + " p\na b c\n?0");
        runs("> f0; { { { " + counted("{ :; } > f#; ", 20) + "echo a; } > g; } 2> h; } < f0; cat g", "a\n?0");
        runs("x=$(exit 3)$(z=1; echo $?)$(exit 4); echo $? $x; y=$(exit 5; z=2) z=$(y=$(exit 6); echo $?); echo $? $z", "4 0\n0 6\n?0");
    }

    private static void functions() {
        runs("f() { echo \"$# $* $0\"; set x; echo $*; shift; echo $#; }; set a b; f 1 '2 3' ''; echo $*; f; echo $#", "3 1 2 3  sh\nx\n0\na b\n0  sh\nx\n0\n2\n?0");
        runs("f() { return 3; echo no; }; f; echo $?; g() { (exit 4); return; }; g; echo $?; h() { false; }; h; echo $?; f() :; ", "fault 1 line 1");
        runs("f() { return 3; echo no; }; f; echo $?; g() { (exit 4); return; }; g; echo $?; h() { false; }; h; echo $?", "3\n4\n1\n?0");
        runs("f() { for i in 1 2; do return $i; done; }; f; echo $?; f() { (return 7; echo no); echo $?; }; f; f() { return 300; }; f; echo $?; f() { return -1; }; f; echo $?", "1\n7\n44\n255\n?0");
        runs("return 3; echo no", "?3");
        runs("f() { return x; }; f; echo no", "?2");
        runs("f() { return 1 2; }; f; echo no", "?2");
        runs("f() { if [ $1 -gt 0 ]; then echo $1; f $(($1-1)); echo $1; fi; }; f 2", "2\n1\n1\n2\n?0");
        runs("f() { f() { echo new; }; echo old; }; f; f; f() (x=2; echo $x); x=1; f; echo $x; f() if true; then echo i; fi; f; f() for i in $*; do echo $i; done; f p q", "old\nnew\n2\n1\ni\np\nq\n?0");
        runs("false; f() { echo $?; }; echo $?; false; f; f() { x=1; }; f; echo $x; f() { unset -f f; echo a; }; f; f; echo $?", "0\n1\n1\na\n127\n?0");
        runs("f() { exit 5; }; (f; echo no); echo $?; f; echo no", "5\n?5");
        runs("f() { shift 3; }; set a b c; f; echo no", "?2");
        runs("f() { cat; }; echo a | f; f <<E\nb\nE\nf < /dev/null; echo \"$(echo c | f)\"", "a\nb\nc\n?0");
    }

    private static void errors() {
        for (String wrong : new String[] {"echo $((1/0))", "echo ${x?}", "readonly x; x=1", "readonly x; x=1 true", "readonly x; read x < /dev/null", "shift", "unset 1", "set -q", "eval '('",
            ". nofile", ".", "eval ')'", "readonly x; unset x", "readonly 1", "export a-b", "readonly x; readonly x=2", "readonly x; export x=2", "exit a", "exit 1 2", "shift a", "shift -1", "shift 1 1",
            "echo a > $((1/0))", "for i in $((1/0)); do :; done", "case $((1/0)) in *) ;; esac", "case a in $((1/0))) ;; esac", "x=$((1/0))", "{ :; } > ${x?}", "set -u; echo $x", "unset -f a b-c", "unset -v x",
            "export -p", "set -", "set +", "set -e+", "set --e", "set -e-", ". /", "readonly IFS; IFS=a", "unset ''"}) {
            runs(wrong + "; echo no", "?2");
            runs("(" + wrong + "; echo no); echo $?; echo .$(" + wrong + "; echo no).; { " + wrong + "; echo no; } | cat", "2\n..\n?0");
            runs("f() { " + wrong + "; echo no; }; (eval 'f; echo no'; echo no) || echo left", "left\n?0");
        }
        runs("x=$(echo a; echo $((1/0)); echo no); echo $? $x; if (exit ${u?}); then :; else echo $?; fi", "2 a\n2\n?0");
        runs("set -q -e; echo no", "?2");
        Session s = new Session();
        s.run("set -e -q a b");
        Session.due("nothing set", s.run("echo $-$#"), "0\n?0");
        runs("! (echo ${u?}); echo $?; (echo ${u?}) || echo or", "0\nor\n?0");
        runs("echo a > f; { echo b; echo ${u?}; } >> f; echo no", "?2");
        Session t = new Session();
        t.run("x=1; f() { x=2; set q; cd /d; echo ${u?} > g; }; mkdir d; f 1 2 > o");
        Session.due("parameters come back, other things stay", t.run("echo $#$x; pwd"), "02\n/d\n?0");
    }

    private static void optionE() {
        runs("set -e; true; false; echo no", "?1");
        runs("set -e; (exit 3); echo no", "?3");
        runs("set -e; nothing; echo no", "?127");
        runs("set -e; echo a > n/f; echo no", "?1");
        runs("set -e; x=$(false); echo no", "?1");
        runs("set -e; echo $(false)a; : $(false; echo no)", "a\n?0");
        runs("set -e; false | true; true | false; echo no", "?1");
        runs("set -e; ! true; ! false; echo a; ! { false; echo b; }; echo c", "a\nb\nc\n?0");
        runs("set -e; false || true; false && true; true && false || true; echo a; true && false; echo no", "a\n?1");
        runs("set -e; if false; then :; fi; if false; true; then echo a; fi; while false; do :; done; until false; true; do :; done; if :; then false; fi; echo no", "a\n?1");
        runs("set -e; if false; then :; elif false; true; then echo b; fi; f() { false; echo c; }; f || :; if f; then :; fi; ! f; f && echo d; (f) || :; x=$(f) || :; echo .$x; f; echo no", "b\nc\nc\nc\nc\nd\nc\n.c\n?1");
        runs("set -e; { false && true; }; echo no", "?1");
        runs("set -e; { false; echo no; } || echo a; (false; echo b) || echo no; eval 'false; echo c' || :; echo 'false; echo d' > s; . ./s || :; . ./s; echo no", "no\nb\nc\nd\n?1");
        runs("set -e; (false; echo no); echo no", "?1");
        runs("set -e; (false; echo no) | cat; echo a; { false; echo no; } & echo b; echo $(false; echo no)", "a\nb\n\n?0");
        runs("(set -e; false; echo no); echo $?; set -e; set +e; false; echo a", "1\na\n?0");
        runs("set -e; for i in 1 2; do echo $i; false; done; echo no", "1\n?1");
        runs("set -e; case $(false) in *) echo a;; esac; f() { return 3; }; f; echo no", "a\n?3");
        runs("set -e; while :; do false; done; echo no", "?1");
        runs("set -e; false || false; echo no", "?1");
        runs("set -e; : | false || true; true && ! true; echo a; f() { ! true; }; f; echo no", "a\n?1");
        Session s = new Session();
        s.run("set -e; false");
        Session.due("it stays on", s.run("echo $-; (exit 4); echo no"), "e\n?4");
    }

    private static void specials() {
        runs(": a b > f; echo $?; ls; false; :; echo $?", "0\nf\n0\n?0");
        runs("eval echo a '; x=b' '; echo' '$x'; eval; echo $?; eval ''; eval 'false'; echo $?; eval 'f() { echo f; }' ; f; eval \"echo 'a\nb'\"", "a\nb\n0\n1\nf\na\nb\n?0");
        runs("eval 'echo a; ('; echo no", "?2");
        runs("x=$(printf 'a\\nb' | tr '\\n' '\\t'); eval \"echo $x\"; y=$(printf x | tr x '\\t-!' ); z=$(printf ab | tr ab '\\t-\\n'); eval \"$z\"; echo $?", "a b\n0\n?0");
        runs("x=$(printf ab | tr ab '\\n- '); eval \"echo '$x'\"; echo no", "?2");
        runs("printf ab | tr ab '\\n- ' > f; . ./f; echo no", "?2");
        runs("for i in 1 2 3; do eval 'if [ $i = 2 ]; then continue; fi'; echo $i; done", "1\n3\n?0");
        runs("mkdir d; echo 'echo in $#; x=1; set q; return 3; echo no' > d/s; set a b; . d/s x y z; echo $? $x $*; cd d; . s; echo $*; . /d/s; echo 'exit 4' > t; (. ./t; echo no); echo $?", "in 2\n3 1 q\nin 1\nq\nin 1\n4\n?0");
        runs("echo 'break; echo a; (return 2); echo $?' > s; for i in 1; do . ./s; echo b; done; . /dev/null; echo $?; > t; false; . ./t; echo $?", "a\n2\nb\n0\n0\n?0");
        runs("f() { . ./s; echo f; }; echo return 5 > s; f; echo $?; echo '$u' > s; . ./s; echo $?; echo '(' > s; . ./s; echo no", "f\n0\n0\n?2");
        runs("exit 3", "?3");
        runs("exit 256; echo no", "?0");
        runs("false; exit", "?1");
        runs("exit -1", "?255");
        runs("set a b; echo $*; set; echo $*; set -- ; echo $#; set -f x -e; echo $- $*; set +f; echo $*; set -ue -- -a; echo $- $*; set '' a; echo $#; set -e; echo $#; set +eu --; echo $-$#", "a b\na b\n0\nf x -e\nx -e\neu -a\n2\n2\n0\n?0");
        runs("set +f-; echo no", "?2");
        runs("set a b c d; shift; echo $*; shift 2; echo $*; shift 0; echo $#; shift 1; echo $#; shift -0; shift 00; echo $?", "b c d\nd\n1\n0\n0\n?0");
        runs("shift; echo no", "?2");
        runs("set a; shift 2; echo no", "?2");
        runs("x=1 y=2; f() { :; }; unset x z; echo .$x$y; unset -f f y; echo $y; f; echo $?; unset; unset -f; echo $?; unset -f y q; unset y; echo .$y", ".2\n2\n127\n0\n.\n?0");
        runs("unset -f f -f; echo no", "?2");
        runs("readonly; export; readonly x=1 y; echo $x.$y. ${y-unset}; export a=b c; echo $a ${c-unset}; readonly x y; echo $?; export x; echo $?; readonly z='a b'; echo $z; readonly w=a=b; echo $w", "1..\nb unset\n0\n0\na b\na=b\n?0");
        runs("x=1; readonly x; (x=2; echo no); echo $? $x; (readonly q=1); q=2; echo $q", "2 1\n2\n?0");
        runs("y='a b'; export x=$y; echo $x; x=~; export z=~; echo $z", "a\n~\n?0");
    }

    private static void bounds() {
        runs("f() { i=$((i+1)); f; }; i=0; (f); echo $?; f; echo no", "2\n?2");
        Session s = new Session();
        s.run("f() { echo a >> o; f; }; f");
        Session.due("functions and their compounds within one another", s.ask(1, "/o").length(), 2 * 30);
        s.run("rm o; i=0; f() { i=$((i+1)); f; }; f");
        Session.due("arithmetics, too", s.ask(0, "i"), "29");
        s.run("f() { echo a >> o; eval f; }; f");
        Session.due("with eval", s.ask(1, "/o").length(), 2 * 20);
        s.run("rm o; x='echo a >> o; eval \"$x\"'; eval \"$x\"");
        Session.due("evals", s.ask(1, "/o").length(), 2 * 60);
        s.run("rm o; echo 'echo a >> o; . ./s' > s; . ./s");
        Session.due("files", s.ask(1, "/o").length(), 2 * 60);
        s.run("rm o; f() { echo a >> o; : $(f); }; f");
        Session.due("substitutions", s.ask(1, "/o").length(), 2 * 20);
        s.run("rm o; f() { echo a >> o; : | f; }; f");
        Session.due("parts of pipelines", s.ask(1, "/o").length(), 2 * 20);
        s.run("rm o; f() { echo a >> o; f & }; f");
        Session.due("and-ors with &", s.ask(1, "/o").length(), 2 * 20);
        s.run("rm o; f() { echo a >> o; : ${u-$(f)}; }; f");
        Session.due("w", s.ask(1, "/o").length(), 2 * 15);
        s.run("rm o; f() { echo a >> o; : $(($(f)1)); }; f");
        Session.due("a", s.ask(1, "/o").length(), 2 * 15);
        s.run("rm o; f() { echo a >> o; if f; then :; fi; }; f");
        Session.due("compounds", s.ask(1, "/o").length(), 2 * 20);
        runs("f() { : ${u-${u-${u-$((1))}}}; }; f; echo $?", "0\n?0");
        // The redirections of a compound stand behind it: what they tell is not within it.
        String evals = "i=0; eval \"$x\"; ls; i=0; x=${x%%echo*}'echo $(:) g); [ $i -lt 59 ] && eval \"$x\"'; (eval \"$x\"); echo $?; ls";
        runs("x='i=$((i+1)); [ $i -eq 59 ] && { :; } > $(echo f); [ $i -lt 59 ] && eval \"$x\"'; " + evals, "f\n2\nf\n?0");

        String x = "x=0123456789abcdef; x=$x$x$x$x$x$x$x$x; x=$x$x$x$x$x$x$x$x; x=$x$x$x$x; ";
        runs(x + "echo ${#x}; y=$x$x$x$x; echo ${#y}; y=$x$x$x$x.; echo no", "4096\n16384\n?2");
        runs(x + "y=$x$x$x$x; : ${u-$y} $(($(echo 1)))\"$y\"; echo no", "?2");
        runs(x + "y=$x$x$x$x; : ${u-$y.}; echo no", "?2");
        runs(x + "y=$x$x$x$x; cat <<E > f; echo no\n$y\nE", "?2");
        runs(x + "y=$x$x$x; y=$y$(echo $x); echo ${#y}", "16384\n?0");
        Session w = new Session();
        Session.due("w has room, the word has not", w.run(x + ": a${u=$x$x$x$x}; echo no"), "?2");
        Session.due("its value was given", w.ask(0, "u").length(), 16384);
        runs("set $(seq 1 1999); echo $#; set \"$@\" a; echo no", "1999\n?2");
        runs("for i in $(seq 1 2000); do :; done; echo $i; for i in $(seq 1 1000) $(seq 1 1001); do echo no; done; echo no", "2000\n?2");
        runs("set $(seq 1 1500); : \"$@\"; echo $#; : \"$@\" \"$@\"; echo no", "1500\n?2");
        runs("f() { set $(seq 1 1998) a; : $(set $(seq 1 10); echo $*) ; }; f $(seq 1 1000); echo $?", "0\n?0");
    }

    /** Bounds that are told by a number: just so many, and one more. */
    private static void justSoMany() {
        String x = "x='#" + times("x", 99) + "'; x=$x$x$x$x; y=$x$x$x$x; x=$y$y$y$y$y$y$y$y$y$y; ";
        runs(x + "echo ${#x}; y=${x#" + times("?", 16) + "}; (eval \"#${y}\"; echo ${#y}); eval \"#$y\" ''; echo $?", "16000\n15984\n0\n?0");
        runs(x + "y=" + times("y", 382) + "; (eval \"$x$y\" a; echo $?); echo $?; (eval \"$x${y}y\" a; echo $?); echo $?; (eval \"$x${y}zz\"; echo $?); (: $x${y}zzz); echo $?; (: ${u-$x${y}zz}; echo $?); (: ${u-$x${y}zz}z); echo $?; (: ${u-$x${y}zzz}); echo $?",
            "0\n0\n2\n0\n2\n0\n2\n2\n?0");
        runs("y=$(printf 'b:' | tr ab '\\n- '); (eval \"$y\"; echo no); echo $?; (eval \":$y\"; echo no); echo $?; alias \"a=$y\"; echo $?; alias 'a=\nx'; echo $?; alias 'a=x\n'; echo $?; alias a=x; echo $?", "2\n2\n1\n1\n1\n0\n?0");
        String many = "for i in 1 2 3 4; do for j in 0 1 2 3 4 5 6 7 8 9; do mkdir d$i$j; > e$i$j; done; done; for i in 0 1 2 3 4 5 6 7 8 9; do > e5$i; done; ";
        runs(many + "set */../e*; echo $#", "?2");
        runs(many + "for i in */../e*; do :; break; done; echo ${i%/*}", "d10/..\n?0");
        runs(many + "> e60; echo */../e*; echo no", "?2");
        String deep = "p=; for i in " + times("a ", 16) + "; do mkdir ${p}" + times("n", 60) + "; p=${p}" + times("n", 60) + "/; done; cd $p; q=e" + times("f", 45)
            + "; for i in 0 1 2 3 4 5 6 7; do for j in 0 1 2 3 4 5 6 7; do > $q$i$j; done; done; ";
        runs(deep + "cd /; set $p*; echo $# ${#1}", "64 1024\n?0");
        runs(deep + "mv ${q}00 ${q}000; cd /; echo $p*; echo no", "?2");
    }

    private static void spent() {
        Session s = new Session();
        Session.due("spent", s.run("x=1; (x=2; while :; do :; done) > f; echo no"), "?130 end 2");
        Session.due("work", s.shell.count(15) >= 128000, true);
        Session.due("spent", s.shell.count(16), 1);
        Session.due("undone", s.ask(0, "x"), "1");
        Session.due("at once", s.run("echo a"), "?130 end 2");
        Session.due("no simple command", s.shell.count(13), 0);
        s.shell.reset();
        Session.due("spent behind reset", s.run("echo a"), "?130 end 2");
        Session t = new Session();
        t.run("seq 1 10000; seq 1 10000; x=1; seq 1 9999 > f");
        Session.due("writes end", t.shell.count(15), 128000);
        Session.due("work was enough to come to the end", t.shell.count(1), 0);
    }

    private static void files() {
        runs("mkdir d d/e; cd d/e; pwd; cd ..; pwd; cd ./.././d; pwd; cd /d//e/; pwd; cd ../..; pwd; cd ..; pwd; echo a > d/f; cat /d/../d/f d/e/../f", "/d/e\n/d\n/d\n/d/e\n/\n/\na\na\n?0");
        runs("mkdir d; cd d/x; echo $?; cd d/..; pwd; > f; cd f; echo $?; cat f/; echo $?; cat f/.; echo $?; cat d/../f/../f; echo $?; cd ''; echo $?", "1\n/\n1\n1\n1\n1\n1\n?0");
        runs("mkdir " + times("n", 60) + "; echo $?; mkdir " + times("n", 61) + "; echo $?; > " + times("m", 61) + "; echo $?; ls | wc -c", "0\n1\n1\n61\n?0");
        runs("i=1; while [ $i -lt 290 ]; do : > f$i; i=$((i+1)); done; mkdir d; for j in 1 2 3 4 5 6 7 8; do : > d/g$j; done; ls | wc -l; : > h; echo $?; touch k; echo $?; mkdir l; echo $?; cp h q; echo $?; rm f1; : > h2; echo $?; mv h q; echo $?; cp f2 f3; echo $?", "290\n0\n1\n1\n1\n0\n0\n0\n?0");
        runs("seq 1 4000 > f; wc -c f; echo a >> f; wc -c f; echo $?", "16384\n16384\n0\n?0");
        runs("for i in f g h j; do seq 1 4000 > $i; done; echo abc > k; wc -c k; ls; rm f; echo b > k; cat k", "0\nf\ng\nh\nj\nk\nb\n?0");
        runs("for i in f g h; do seq 1 4000 > $i; done; seq 1 3500 | head -n 3490 > j; wc -c j; for i in 1 2 3 4 5 6; do echo abcdefg; done > k; wc -c < k; rm j; echo abc >> k; tail -n 1 k", "16343\n41\naabc\n?0");
    }

    public static void main(String[] args) {
        simpleCommands();
        redirections();
        pipelines();
        subshells();
        compounds();
        behindThings();
        leftAsItWas();
        many();
        functions();
        errors();
        optionE();
        specials();
        bounds();
        justSoMany();
        spent();
        files();
        Session.end();
    }
}
