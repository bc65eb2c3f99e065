/** Promises 3 and 4: what is read, its faults with their lines, and the print of the tree. */
public final class ReadTest {
    private static void faults(String text, int fault, int line) {
        Session.faults(text, fault, line);
    }

    private static void fine(String text) {
        Session.faults(text, 0, 0);
    }

    private static void prints(String text, String want) {
        Session.prints(text, want);
    }

    private static String times(String text, int n) {
        StringBuilder all = new StringBuilder();
        for (int i = 0; i < n; i++) {
            all.append(text);
        }
        return all.toString();
    }

    private static void tokensOutOfPlace() {
        faults("a | | b", 1, 1);
        faults("{ a; } $(b\nc)", 1, 1);
        faults("a\n{ a; } \"b\nc\"", 1, 2);
        faults("a b (\n)", 1, 1);
        faults("a\\\nb c (\n)", 1, 2);
        faults("case a in | b) ;; esac", 1, 1);
        faults("case a in ;; esac", 1, 1);
        faults("case a in b\n) ;; esac", 1, 1);
        faults("case a in b ( c) ;; esac", 1, 1);
        faults("case a in (( c) ;; esac", 1, 1);
        faults("case a ( in c) ;; esac", 1, 1);
        faults("a\nb ;; c", 1, 2);
        faults("| a", 1, 1);
        faults("a && && b", 1, 1);
        faults("a & ; b", 1, 1);
        faults(";", 1, 1);
        faults("&", 1, 1);
        faults("a ; ; b", 1, 1);
        faults(")", 1, 1);
        faults("a\n\n)", 1, 3);
        faults("( )", 1, 1);
        faults("{ }", 1, 1);
        faults("if then a; fi", 1, 1);
        faults("if a; then fi", 1, 1);
        faults("if a; then b; else fi", 1, 1);
        faults("if a; then b; else c; else d; fi", 1, 1);
        faults("if a; then b; else c; elif d; then e; fi", 1, 1);
        faults("while do a; done", 1, 1);
        faults("while a; do done", 1, 1);
        faults("while a\nb\ndone", 1, 3);
        faults("for 1 in a; do b; done", 1, 1);
        faults("for 'x' in a; do b; done", 1, 1);
        faults("for x in a do b; done", 1, 1);
        faults("for x y; do b; done", 1, 1);
        faults("for x\n; do b; done", 1, 2);
        faults("for x; in a; do b; done", 1, 1);
        faults("for x in a & do b; done", 1, 1);
        faults("for x in a; do b; }", 1, 1);
        faults("case a b in c) ;; esac", 1, 1);
        faults("case in c) ;; esac", 1, 1);
        faults("case a in b c) ;; esac", 1, 1);
        faults("case a in b) ;; ;; esac", 1, 1);
        faults("case a in () ;; esac", 1, 1);
        faults("case a in b|) ;; esac", 1, 1);
        faults("case a in b) c ;; esac d", 1, 1);
        faults("case a in b) c; d; esac\nesac", 1, 2);
        faults("then", 1, 1);
        faults("a; do", 1, 1);
        faults("a; done", 1, 1);
        faults("}", 1, 1);
        faults("in", 1, 1);
        faults("! ! a", 1, 1);
        faults("a | ! b", 1, 1);
        faults("!\na", 1, 1);
        faults("! ;", 1, 1);
        faults("{ a; } b", 1, 1);
        faults("(a) b", 1, 1);
        faults("(a) 2", 1, 1);
        faults("f() a", 1, 1);
        faults("f()\n\na", 1, 3);
        faults("f() g() { a; }", 1, 1);
        faults("f( a ) { b; }", 1, 1);
        faults("f x() { b; }", 1, 1);
        faults("x=1 f() { b; }", 1, 1);
        faults(">a f() { b; }", 1, 1);
        faults("f-g() { b; }", 1, 1);
        faults("'f'() { b; }", 1, 1);
        faults("1f() { b; }", 1, 1);
        faults("if() { b; }", 1, 1);
        faults("a > | b", 1, 1);
        faults("a >\nb", 1, 1);
        faults("a > 2>b", 1, 1);
        faults("a <> b", 1, 1);
        faults("a >| b", 1, 1);
        faults("a &&& b", 1, 1);
        faults("a |& b", 1, 1);
        faults("a ;;", 1, 1);
        faults("a ( b", 1, 1);
        faults("a | (b) c", 1, 1);
        faults("echo $(cat <<E)\nE\n", 1, 1);
        faults("echo $(a; )) b", 1, 1);
        faults("echo $(a &&) b", 1, 1);
        faults("echo $(\n\na | )", 1, 3);
        faults("echo \"$(a &&)\" b", 1, 1);
        faults("{ a; ) }", 1, 1);
        faults("( a; }", 1, 1);
    }

    private static void textsThatEndTooEarly() {
        faults("(", 2, 2);
        faults("(\n", 2, 2);
        faults("(\n\n\n", 2, 4);
        faults("if a; then b;", 2, 2);
        faults("a &&", 2, 2);
        faults("a |\n\n", 2, 3);
        faults("!", 1, 1);
        faults("f()", 2, 2);
        faults("f(", 1, 1);
        faults("for", 1, 1);
        faults("for x", 2, 2);
        faults("case a", 2, 2);
        faults("case a in b) c", 2, 2);
        faults("a >", 1, 1);
        faults("a > \\\n", 2, 2);
        faults("'a", 2, 2);
        faults("'a\nb", 2, 3);
        faults("\"a", 2, 2);
        faults("a `b", 2, 2);
        faults("a `b\\`", 2, 2);
        faults("a `b\\\\`", 0, 0);
        faults("a $(b", 2, 2);
        faults("a $((1+2)", 2, 2);
        faults("a $((1+2) )", 2, 2);
        faults("a ${b-c", 2, 2);
        faults("a ${b-'}", 2, 2);
        faults("a \"${b-'}\"", 0, 0);
        faults("cat <<E", 2, 2);
        faults("cat <<E\n", 2, 2);
        faults("cat <<E\na\nE b\n", 2, 4);
        faults("cat <<E\\\n", 2, 2);
        faults("cat <<'E\nF'\nE\nF\n", 2, 5);
        faults("cat <<E\n$(\nE\n", 2, 3);
        faults("a\ncat <<E\nb\n${x-\nE\nc\n", 2, 5);
        faults("cat <<E\n`a\nE\n", 2, 3);
        faults("cat <<E\n$((1\nE\n", 2, 3);
        faults("cat <<E\n$(cat <<F\nF\\\nE\n", 2, 5);
        faults("cat <<E\n\\\n$(a\nE\\\n\nb\n", 2, 4);
        faults("cat <<E\n$(cat <<F\na\nE\n", 2, 4);
    }

    private static void parametersThatAreNone() {
        faults("x=${y!z}", 3, 1);
        faults("\n${}", 3, 2);
        faults("${ a}", 3, 1);
        faults("${a b}", 3, 1);
        faults("${a:}", 3, 1);
        faults("${a:b}", 3, 1);
        faults("${1a}", 3, 1);
        faults("${@#a}", 3, 1);
        faults("${*%a}", 3, 1);
        faults("${#@#a}", 3, 1);
        faults("${#a-b}", 3, 1);
        faults("${#*x}", 3, 1);
        faults("${!}", 3, 1);
        faults("${a", 3, 1);
        faults("${", 3, 1);
        faults("${a\\\n", 2, 2);
        faults("${\\\n", 2, 2);
        faults("${a:\\\n", 2, 2);
        faults("${#\\\n", 2, 2);
        faults("$\\\n{a\\\n b}", 3, 1);
        faults("a\n'\n'${/}", 3, 3);
        faults("a ${IFS= ,", 2, 2);
        faults("${IFS!}", 3, 1);
        faults("${#IFS", 3, 1);
        for (String form : new String[] {"${IFS}", "${IFS= ,}", "${#IFS}", "${IFS:-x}", "${IFS%%y}", "${HOME}", "${HOME##z}", "${a}", "${#a}", "${#}", "${##}", "${#-}", "${#-x}", "${##x}", "${###}", "${####}",
            "${#%}", "${#%%x}", "${#?}", "${#?x}", "${#:-x}", "${#+x}", "${#=}", "${#@}", "${#*}", "${#$}", "${#10}", "${10}",
            "${0010}", "${0}", "${@}", "${*-a}", "${@:+b}", "${$}", "${?}", "${-}", "${--x}", "${?-x}", "${a-}", "${a:=b c}",
            "${a%%*}", "${a##x}", "${a%}", "${a-\n}", "${a-|&;()<>}", "${a-'}'}", "${a-\\}}", "${a-${b-c}}", "${a-$(b})}",
            "${99999999999999999999}"}) {
            fine("echo " + form);
            prints("echo " + form, "echo " + form + "\n");
            prints("echo \"" + form + "\"", "echo \"" + form + "\"\n");
        }
    }

    private static void tooDeep() {
        fine(times("(", 40) + "a" + times(")", 40));
        faults(times("(", 41) + "a" + times(")", 41), 4, 1);
        fine(times("{ ", 40) + "a" + times("; }", 40));
        faults(times("{ \n", 41) + "a" + times("; }", 41), 4, 41);
        fine("echo " + times("${a-", 40) + times("}", 40));
        faults("echo " + times("${a-", 40) + "\n${b!}" + times("}", 40), 4, 2);
        fine("echo " + times("$((", 20) + "1" + times("))", 20) + times("$(a ", 39) + "\"`b`\"" + times(")", 39));
        faults("echo " + times("$(a ", 40) + "`b`" + times(")", 40), 4, 1);
        faults("echo " + times("$(a ", 40) + "`b" + times(")", 40), 4, 1);
        faults("echo " + times("$((", 41), 4, 1);
        fine("echo " + times("$(a ", 40) + "$a" + times(")", 40));
        fine("f() " + times("(", 40) + "a" + times(")", 40));
        fine(times("f() { ", 40) + "a" + times("; }", 40));
        faults(times("f() { ", 41) + "a" + times("; }", 41), 4, 1);
        fine(times("if a; then ", 40) + "b" + times("; fi", 40));
        fine(times("case a in b) ", 40) + "b" + times("; esac", 40));
        faults(times("while a; do\n", 41) + "b" + times("; done", 41), 4, 41);
        fine(times("(", 40) + "a" + times(")", 40) + ";" + times("(", 40) + "a" + times(")", 40));
    }

    private static void delimiters() {
        faults("cat <<$x\n$x\n", 5, 1);
        faults("a\ncat <<`b`\n", 5, 2);
        faults("cat <<\"$x\"\n", 5, 1);
        faults("cat <<E$((1))\n", 5, 1);
        faults("cat <<${x!}\n", 3, 1);
        fine("cat <<$\n$\n");
        fine("cat <<'$x'\n$x\n");
        fine("cat <<\\$x\n$x\n");
        fine("cat <<''\na\n\n");
        prints("cat <<\"a b\"c\\d\nx\na bcd\n", "cat << \"a b\"c\\d\nx\na bcd\n");
    }

    private static void room() {
        Session s = new Session();
        String text = ": " + times("a", 9980);
        for (int i = 1; i <= 4; i++) {
            Session.due("read", s.read(text), 0);
            Session.due("source", s.shell.count(14), 9998 * i);
        }
        Session.due("no room", s.read(""), 6);
        Session.due("none was taken", s.shell.count(14), 39992);
        Session.due("no script", s.shell.count(17), -1);

        Session t = new Session();
        Session.due("a text", t.read(": " + times("a", 9982)), 0);
        Session.due("a text", t.read(": " + times("a", 9982)), 0);
        Session.due("a text", t.read(": " + times("a", 9982)), 0);
        Session.due("source", t.shell.count(14), 30000);
        Session.due("in `..`", t.read(": " + times("a", 9948) + "\n`b`"), 0);
        Session.due("source", t.shell.count(14), 30000 + 16 + 9954 + 16 + 1);
        Session.due("no room for a second", t.read(""), 6);

        Session u = new Session();
        u.put(2, "a", "0123456789");
        Session.due("alias", u.read("a; a\n"), 0);
        Session.due("source", u.shell.count(14), 16 + 5 + 2 * 26);
        u.read("echo `b`; `c\n`");
        Session.due("source", u.shell.count(14), 73 + 16 + 14 + 17 + 18);
        u.run("eval ': a'; eval; echo :>f; . ./f");
        Session.due("source", u.shell.count(14), 138 + 16 + 33 + 19 + 16 + 18);
        Session.due("the first fault counts", u.read("a; ) a"), 1 + 8);
        Session.due("what began counts", u.shell.count(14), 240 + 16 + 6 + 26);
    }

    /** SOURCE may come to 40000, not to 40001. */
    private static void justRoom() {
        Session s = new Session();
        Session t = new Session();
        for (int i = 0; i < 4; i++) {
            Session.due("read", s.read("#" + times("x", 8999)), 0);
            Session.due("read", t.read("#" + times("x", 8999)), 0);
        }
        Session.due("source", s.shell.count(14), 36064);
        Session.due("a byte too many", s.read("#" + times("x", 3920)), 6);
        Session.due("source", s.shell.count(14), 36064);
        Session.due("just enough", s.read("#" + times("x", 3919)), 0);
        Session.due("source", s.shell.count(14), 40000);
        Session.due("room for `..` just so", t.read(": " + times("y", 3898) + "`:`"), 0);
        Session.due("source", t.shell.count(14), 40000);
        Session v = new Session();
        Session.due("parts", v.read("echo `a \\\\ \\$ \\x` \"`a \\\"b\\\"`\""), 0);
        Session.due("as they were told", v.shell.count(14), 16 + 29 + 16 + 10 + 16 + 7);
    }

    /** What is behind something is not within it. */
    private static void behindThings() {
        for (String thing : new String[] {"$(a) ", "`a` ", "${x} ", "${#x} ", "${#} ", "${x-a} ", "${x%a} ", "\"${x}${x-\"a\"}\" ", "$((1)) ", "${#-x} ", "${##x} "}) {
            fine("echo " + times(thing, 50));
            fine("cat <<E\n" + times(thing.replace("\"", ""), 50) + "\nE\n");
        }
        for (String thing : new String[] {"{ a; }", "(a)", "if a; then b; elif c; then d; else e; fi", "while a; do b; done", "until a; do b; done", "for x in a; do b; done", "for x do b; done",
            "case a in b) ;; esac", "case a in b) c; esac", "case a in esac", "f() { a; }", "f() (a)"}) {
            fine(times(thing + "; ", 50));
            fine(times(thing + " | ", 50) + "a");
        }
    }

    /** Lines of here-documents behind newlines in all places. */
    private static void linesOfBodies() {
        String body = "\nx\nE\n";
        prints("cat <<E; f()" + body + "{ a; }", "cat << E\nx\nE\nf() {\na\n}\n");
        prints("cat <<E; case a" + body + "in b) c;; esac", "cat << E\nx\nE\ncase a in\n(b)\nc\n;;\nesac\n");
        prints("cat <<E; case a in" + body + "b) c;; esac", "cat << E\nx\nE\ncase a in\n(b)\nc\n;;\nesac\n");
        prints("cat <<E; case a in b)" + body + "c;; esac", "cat << E\nx\nE\ncase a in\n(b)\nc\n;;\nesac\n");
        prints("cat <<E; case a in b) c;;" + body + "esac", "cat << E\nx\nE\ncase a in\n(b)\nc\n;;\nesac\n");
        prints("cat <<E; for x" + body + "in a; do b; done", "cat << E\nx\nE\nfor x in a\ndo\nb\ndone\n");
        prints("cat <<E; for x in a" + body + "do b; done", "cat << E\nx\nE\nfor x in a\ndo\nb\ndone\n");
        prints("cat <<E; for x;" + body + "do b; done", "cat << E\nx\nE\nfor x\ndo\nb\ndone\n");
        prints("cat <<E && " + body + "a |" + "\nb", "cat << E && a | b\nx\nE\n");
        prints("cat <<-E\n\t$(echo 'a\n\tb'; cat <<F\n\tc\nF\ncat <<'G'\n\td\nG\n)`echo 'e\n\tf'`\n\tE", "cat <<- E\n$(echo 'a\nb'; cat <<F\nc\nF\ncat <<'G'\nd\nG\n)`echo 'e\nf'`\nE\n");
        Session.runs("cat <<-E\n\t$(echo 'a\n\tb'; cat <<F\n\tc\nF\ncat <<'G'\n\td\nG\n)`echo 'e\n\tf'`\n\tE", "a\nb\nc\nde\nf\n?0");
        Session.runs("cat <<E\n$(echo 'a\\\nb' # c\\\nd\necho `echo 'e\\\nf'`)\nE", "ab\nef\n?0");
    }

    private static void vanishedNewlines() {
        prints("ec\\\nho a\\\n  b", "echo a b\n");
        prints("a &\\\n& b", "a && b\n");
        prints("echo \"a\\\nb\" 'a\\\nb'", "echo \"ab\" 'a\\\nb'\n");
        prints("echo $\\\n{x\\\ny\\\n}", "echo ${xy}\n");
        prints("echo $\\\n(a \\\n b)", "echo $(a  b)\n");
        prints("echo `a\\\nb`", "echo `a\\\nb`\n");
        prints("echo $(: '\\\n' # \\\n)", "echo $(: '\\\n' # \\\n)\n");
        prints("echo \\\\\nb", "echo \\\\\nb\n");
        prints("echo $((1\\\n+2))", "echo $((1+2))\n");
        prints("i\\\nf a; then b; fi", "if\na\nthen\nb\nfi\n");
        prints("a 2\\\n>b", "a 2> b\n");
        prints("cat <<E\na\\\nb\\\\\nE", "cat << E\nab\\\\\nE\n");
        prints("cat <<'E'\na\\\nb\nE", "cat << 'E'\na\\\nb\nE\n");
        prints("echo $(cat <<E\na\\\nb\nE\n)", "echo $(cat <<E\nab\nE\n)\n");
        prints("echo a\\", "echo a\n");
    }

    private static void words() {
        prints("a#b #c", "a#b\n");
        prints("a;#b\nc", "a\nc\n");
        prints("echo 'a b'\"c\"\\ d$e`f`$(g)$((h))${i}", "echo 'a b'\"c\"\\ d$e`f`$(g)$((h))${i}\n");
        prints("echo $ $. \"$\" $'a' a$", "echo $ $. \"$\" $'a' a$\n");
        prints("echo $((1)+(2))", "fault 2 line 2");
        prints("echo $((a)b))", "echo $((a)b))\n");
        prints("echo $(( (a) ))c", "echo $(( (a) ))c\n");
        prints("echo $( (a) )", "echo $( (a) )\n");
        prints("echo $(case a in b) c;; esac) d", "echo $(case a in b) c;; esac) d\n");
        prints("echo $(a # )\n)", "echo $(a # )\n)\n");
        prints("echo ${a-\"}\"'}'\\}b}c", "echo ${a-\"}\"'}'\\}b}c\n");
        prints("echo \"${a-'b}c\"", "echo \"${a-'b}c\"\n");
        prints("echo \"${a-\"}\"}\"", "echo \"${a-\"}\"}\"\n");
        prints("a>b<c>>d<&1>&-", "fault 1 line 1");
        prints("a>b<c>>d<&1 >&-2>e 3>f 34>g h2>i", "a > b < c >> d <& 1 >& -2 > e 3> f 34 > g h2 > i\n");
        prints("a 2>b'2'>c", "a 2> b'2' > c\n");
        prints("x=1 y= a z=2 >f", "x=1 y= a z=2 > f\n");
        prints("\ta\t\tb ", "a b\n");
    }

    private static void trees() {
        prints("a;b&c", "a\nb &\nc\n");
        prints("a && b || c & d", "a && b || c &\nd\n");
        prints("! a|b\n!(c)", "! a | b\n! (\nc\n)\n");
        prints("a |\n\n b &&\n c", "a | b && c\n");
        prints("{ a; b & }>c 2>&1", "{\na\nb &\n} > c 2>& 1\n");
        prints("{ { a; } }", "{\n{\na\n}\n}\n");
        prints("if (a) then (b) fi", "if\n(\na\n)\nthen\n(\nb\n)\nfi\n");
        prints("if a; then b; elif c\nthen d; elif e; then f; else g; h; fi", "if\na\nthen\nb\nelif\nc\nthen\nd\nelif\ne\nthen\nf\nelse\ng\nh\nfi\n");
        prints("while a; b; do c; done", "while\na\nb\ndo\nc\ndone\n");
        prints("until a\ndo c\ndone", "until\na\ndo\nc\ndone\n");
        prints("for x do a; done", "for x\ndo\na\ndone\n");
        prints("for x\n\ndo a; done", "for x\ndo\na\ndone\n");
        prints("for x; \n do a; done", "for x\ndo\na\ndone\n");
        prints("for x in; do a; done", "for x in\ndo\na\ndone\n");
        prints("for x\n\nin a 'b'\n\ndo a; done", "for x in a 'b'\ndo\na\ndone\n");
        prints("for in in in in; do a; done", "for in in in in\ndo\na\ndone\n");
        prints("for x in do done; do a; done", "for x in do done\ndo\na\ndone\n");
        prints("case a in esac", "case a in\nesac\n");
        prints("case in in in) in) a;; esac", "fault 1 line 1");
        prints("case in in in) b;; esac", "case in in\n(in)\nb\n;;\nesac\n");
        prints("case a\n\nin\n\n b|'c' ) ;;\n\n(d) e\n;;\n(esac|f)esac", "case a in\n(b | 'c')\n;;\n(d)\ne\n;;\n(esac | f)\n;;\nesac\n");
        prints("case a in b|esac) c; esac", "case a in\n(b | esac)\nc\n;;\nesac\n");
        prints("case a in b) c & esac >d", "case a in\n(b)\nc &\n;;\nesac > d\n");
        prints("f(){ a;}", "f() {\na\n}\n");
        prints("f () \n\n { a; } > b", "f() {\na\n} > b\n");
        prints("f() g=1", "fault 1 line 1");
        prints("f() if a; then b; fi; c", "f() if\na\nthen\nb\nfi\nc\n");
        prints("{ f() (a) }", "{\nf() (\na\n)\n}\n");
        prints("echo if then } { ! in", "echo if then } { ! in\n");
        prints("x=1 if", "x=1 if\n");
        prints(">f if", "> f if\n");
        prints("\\if a; 'then'", "\\if a\n'then'\n");
        prints("{a; !b", "{a\n!b\n");
    }

    private static void hereDocuments() {
        prints("cat <<E; b\na $x\n\tb\nE\nc", "cat << E\na $x\n\tb\nE\nb\nc\n");
        prints("cat <<-E\n\t\ta\n b\n\tE\n", "cat <<- E\na\n b\nE\n");
        prints("cat <<-'E'\n\ta\\\n\t\\\n\tE\n", "cat <<- 'E'\na\\\n\\\nE\n");
        prints("cat <<-E\n\t\\\n\ta\\\n\tb\nE\n", "cat <<- E\na\tb\nE\n");
        prints("cat <<E\nab\\\nE\nE\\\n\nx", "cat << E\nabE\nE\nx\n");
        prints("cat <<A <<B && c <<C\na\nA\nb\nB\nc\nC\n", "cat << A << B && c << C\na\nA\nb\nB\nc\nC\n");
        prints("cat <<A | {\na\nA\nb; }", "cat << A | {\na\nA\nb\n}\n");
        prints("{ cat <<A; }\na\nA\n", "{\ncat << A\na\nA\n}\n");
        prints("{ cat; } <<A\na\nA\n", "{\ncat\n} << A\na\nA\n");
        prints("cat <<A 'x\ny'\na\nA\n", "cat << A 'x\ny'\na\nA\n");
        prints("cat <<A $(b\nc)\na\nA\n", "cat << A $(b\nc)\na\nA\n");
        prints("echo $(cat <<A\na\nA\n) <<B\nb\nB\n", "echo $(cat <<A\na\nA\n) << B\nb\nB\n");
        prints("case a in b) c <<A;; esac\na\nA\n", "case a in\n(b)\nc << A\na\nA\n;;\nesac\n");
        prints("for x in <<A; do b; done\nA\n", "fault 1 line 1");
        prints("a <<E; for x in b\nt\nE\ndo c; done", "a << E\nt\nE\nfor x in b\ndo\nc\ndone\n");
        prints("cat 0<<E # c\nt\nE", "cat 0<< E\nt\nE\n");
        prints("cat <<E\n$(cat <<F\nx\\\ny\nF\n)\nE\n", "cat << E\n$(cat <<F\nxy\nF\n)\nE\n");
        prints("f() { cat <<-E; }\n\t$y\n\tE\nf", "f() {\ncat <<- E\n$y\nE\n}\nf\n");
        Session.faults("a <<E && ! \n$(\nE\n", 1, 1);
    }

    private static Session aliased(String... pairs) {
        Session s = new Session();
        for (int i = 0; i < pairs.length; i += 2) {
            Session.due("put", s.put(2, pairs[i], pairs[i + 1]), true);
        }
        return s;
    }

    private static void alias(Session s, String text, String want) {
        int fault = s.read(text);
        Session.due(text, fault == 0 ? s.print() : "fault " + fault % 8 + " line " + fault / 8, want);
    }

    private static void aliases() {
        Session s = aliased("a", "echo ", "b", "x y", "c", "b", "d", "c ", "e", "", "f", "e e2", "if", "echo if", "p", "{ ", "q", "}",
            "r", "r r2", "t1", "t2", "t2", "t1", "w", "x; ", "n", "2", "h", "cat <<E", "g", "cat < ", "k", "a # c ", "m", "& ", "o", "x 2");
        alias(s, "b b", "x y b\n");
        alias(s, "a b b", "echo x y b\n");
        alias(s, "c", "x y\n");
        alias(s, "d b c", "x y x y c\n");
        alias(s, "a d b", "echo c x y\n");
        alias(s, "e b", "x y\n");
        alias(s, "f", "e2\n");
        alias(s, "if b; then b; fi", "if\nx y\nthen\nx y\nfi\n");
        alias(s, "x=1 if", "x=1 echo if\n");
        alias(s, ">z b", "> z x y\n");
        alias(s, "p b; q", "{\nx y\n}\n");
        alias(s, "p b; }", "{\nx y\n}\n");
        alias(s, "r", "r r2\n");
        alias(s, "t1", "t1\n");
        alias(s, "a t1", "echo t2\n");
        alias(s, "w b", "x\nx y\n");
        alias(s, "'b' \\b \"b\"", "'b' \\b \"b\"\n");
        alias(s, "b=1 b", "b=1 x y\n");
        alias(s, "! b && b | b; (b) & b", "! x y && x y | x y\n(\nx y\n) &\nx y\n");
        alias(s, "h\nb\nE", "cat << E\nb\nE\n");
        alias(s, "g b", "cat < x y\n");
        alias(s, "k b", "echo x y\n");
        alias(s, "z m b", "z m b\n");
        alias(s, "o>f", "x 2 > f\n");
        alias(s, "for b in b; do b; done", "for b in b\ndo\nx y\ndone\n");
        alias(s, "case b in b) b;; (b|b) b; esac", "case b in\n(b)\nx y\n;;\n(b | b)\nx y\n;;\nesac\n");
        alias(s, "echo $(b) `b`", "echo $(b) `b`\n");
        alias(s, "b() { z; }", "fault 1 line 1");
        alias(s, "\n\nn)", "fault 1 line 3");
        alias(s, "{ z; } b", "fault 1 line 1");
        alias(s, "a\nb", "echo\nx y\n");
        alias(s, "a >b b", "echo > b b\n");
        Session t = aliased("u", "echo '", "v", "echo ${x", "w", "$(x", "y", "`z", "z", "a\\", "c", ")", "l", "a (");
        alias(t, "\nu", "fault 2 line 2");
        alias(t, "\nu '", "fault 2 line 2");
        alias(t, "\nu'", "fault 2 line 3");
        alias(t, "\n\nv }", "fault 2 line 3");
        alias(t, "w )", "fault 2 line 1");
        alias(t, "y", "fault 2 line 1");
        alias(t, "z", "fault 2 line 1");
        alias(t, "echo $(a; c", "fault 1 line 1");
        alias(t, "(a; c", "(\na\n)\n");
        alias(t, "echo `\n\n l`", "fault 1 line 3");
    }

    private static void aliasesWithin() {
        String[] pairs = new String[24];
        for (int i = 0; i < 12; i++) {
            pairs[2 * i] = "a" + i;
            pairs[2 * i + 1] = "a" + (i + 1) + " x" + i;
        }
        alias(aliased(pairs), "a0", "a10 x9 x8 x7 x6 x5 x4 x3 x2 x1 x0\n");
        Session s = aliased("a", "echo `a; b`", "b", "c");
        int fault = s.read("a");
        Session.due("fault", fault, 0);
        Session.due("`..` of an alias", s.shell.count(14), 16 + 1 + 16 + 11 + 16 + 4 + 16 + 1);
        Session u = aliased("for", "echo for", "x", "y", "do", "no", "l", "for ", "in", "no2", "e", "echo ");
        alias(u, "l x in x; do x; done", "for y in x\ndo\ny\ndone\n");
        alias(u, "e in do", "echo in do\n");
        alias(u, "e do", "echo do\n");
        alias(u, "z=1 do", "z=1 no\n");
        behindAliases();
    }

    /** Words that follow an alias whose text ends with a blank: reserved ones stay, the others have a text, wherever they stand. */
    private static void behindAliases() {
        Session s = aliased("do", "no", "in", "no", "x", "y", "r", "echo > ", "f", "for v in ", "c", "case ", "p", "case a in ", "b", "{ z; } ",
            "g", "fn ( ", "h", "fn ( ) ", "s", ")", "t", "(", "o", "; do", "n", "for ");
        alias(s, "r do", "echo > do\n");
        alias(s, "r x", "echo > y\n");
        alias(s, "f do x; do x; done", "for v in do x\ndo\ny\ndone\n");
        alias(s, "f x do; do x; done", "for v in y do\ndo\ny\ndone\n");
        alias(s, "n do; do x; done", "for do\ndo\ny\ndone\n");
        alias(s, "c do in do) x;; esac", "case do in\n(do)\ny\n;;\nesac\n");
        alias(s, "p do) x;; esac", "case a in\n(do)\ny\n;;\nesac\n");
        alias(s, "p x) x;; esac", "case a in\n(y)\ny\n;;\nesac\n");
        alias(s, "b do", "fault 1 line 1");
        alias(s, "b o", "fault 1 line 1");
        Session u = aliased("o", "| z", "p", "; z");
        alias(u, "{ z; } o", "fault 1 line 1");
        alias(u, "{ z; } p", "fault 1 line 1");
        alias(u, "f() o", "fault 1 line 1");
        alias(s, "g s { x; }", "fn() {\ny\n}\n");
        alias(s, "g s", "fault 2 line 2");
        alias(s, "g x", "fault 1 line 1");
        alias(s, "g do", "fault 1 line 1");
        alias(s, "h t x )", "fn() (\ny\n)\n");
        alias(s, "h do", "fault 1 line 1");
        alias(s, "f ( s { x; }", "fault 1 line 1");
    }

    /** What a body is within is told by where its operator stands. */
    private static void bodiesWithin() {
        String x40 = times("{ ", 40);
        String y40 = times("}; ", 40);
        faults(x40 + "cat <<E; " + y40 + "\n${x}\nE\n", 4, 2);
        faults(x40 + "cat <<E; " + y40 + "\nx\n`x`\nE\n", 4, 3);
        faults(x40 + "cat; } <<E; " + times("}; ", 39) + "\n${x}\nE\n", 0, 0);
        faults("cat <<E; " + x40 + "\n${x}\nE\necho; " + y40, 0, 0);
        faults("cat <<E; " + x40 + "\n" + times("${x-", 40) + times("}", 40) + "\nE\necho; " + y40, 0, 0);
        faults("cat <<E; " + x40 + "\n" + times("${x-", 41) + times("}", 41) + "\nE\necho; " + y40, 4, 2);
        faults("cat <<E; " + x40 + "\n${x}\nE\necho ${x}; " + y40, 4, 4);
        faults("{ cat <<E; " + times("{ ", 39) + "cat <<F\n" + times("${x-", 39) + times("}", 39) + "\nE\n${x}\nF\n" + y40, 4, 4);
        String nested = x40 + "cat <<E\nx\nE\n" + y40;
        Session s = new Session();
        faults(nested, 0, 0);
        s.read(nested);
        String print = s.print();
        Session.due("its print", s.read(print), 0);
        Session.due("the print of its print", s.print(), print);
    }

    /** A line that ends with \\ is joined with the next one, which must be there. */
    private static void joinedLines() {
        faults("cat <<E\nE\\\n", 2, 3);
        faults("cat <<E\nE\\", 2, 3);
        faults("cat <<E\nx\nE\\\n", 2, 4);
        faults("cat <<E\n\\\n\\\n", 2, 4);
        faults("cat <<E\nE\\\n\n", 0, 0);
        faults("cat <<E\n\\\nE\n", 0, 0);
        faults("cat <<E\nE\\\\\n", 2, 3);
        faults("cat <<'E'\nE\\\n", 2, 3);
        faults("cat <<'E\\'\nE\\\n", 0, 0);
        faults("cat <<-E\n\t\\\n\tE\n", 0, 0);
        faults("cat <<-E\n\\\n\tE\\\n", 2, 4);
        faults("echo `cat <<E\nE\\\\\n`", 2, 3);
        prints("cat <<-E\n\ta\\\n\tb\n\t\tE\n", "cat <<- E\na\tb\nE\n");
        prints("cat <<E\na\\\\\nb\\\\\\\nc\nE\n", "cat << E\na\\\\\nb\\\\c\nE\n");
        prints("echo \"$(cat <<-E\n\ta\n\t\tE\n)\"\n", "echo \"$(cat <<-E\n\ta\n\t\tE\n)\"\n");
        prints("cat <<-E\n\t$(cat <<-F\n\t\ta\tb\n\tF\n)\n\tE\n", "cat <<- E\n$(cat <<-F\na\tb\nF\n)\nE\n");
        prints("cat <<E\n$(cat <<-F\n\ta\n\tF\n)\nE\n", "cat << E\n$(cat <<-F\n\ta\n\tF\n)\nE\n");
        prints("cat <<-'E'\n\ta\\\n\tb\n\tE\n", "cat <<- 'E'\na\\\nb\nE\n");
        Session.runs("x=$(cat <<-E\n\ta\tb\n\tE\n); echo \"$x\"", "a\tb\n?0");
        prints("cat <<E\n$(cat <<F\na\\\nb\n\\\nF\n)\nE\n", "cat << E\n$(cat <<F\nab\nF\n)\nE\n");
    }

    private static void asTheyWere() {
        Session s = aliased("a", "echo A");
        Session.due("read", s.read("alias a='echo B'; a; eval a"), 0);
        s.shell.run(10);
        Session.due("as they were", s.bytes(1, s.shell.count(2)), "A\nB\n");
    }

    public static void main(String[] args) {
        tokensOutOfPlace();
        textsThatEndTooEarly();
        parametersThatAreNone();
        tooDeep();
        delimiters();
        room();
        justRoom();
        behindThings();
        linesOfBodies();
        vanishedNewlines();
        words();
        trees();
        hereDocuments();
        aliases();
        aliasesWithin();
        bodiesWithin();
        joinedLines();
        asTheyWere();
        Session.end();
    }
}
