/**
 * The document's boundary cases in the order of its words, first part: TEXT, TOKENS, GRAMMAR, FAULTS, SOURCE (promises
 * 3, 4, 12). Above each method stands what it tries: at the bound, one below it, one beyond it, empty and full.
 */
public final class ReadBoundsTest {
    private static void due(String what, Object got, Object want) {
        Session.due(what, got, want);
    }

    private static void runs(String text, String want) {
        Session.runs(text, want);
    }

    private static void prints(String text, String want) {
        Session.prints(text, want);
    }

    private static void faults(String text, int fault, int line) {
        Session.faults(text, fault, line);
    }

    private static void fine(String text) {
        Session.faults(text, 0, 0);
    }

    private static String times(String text, int n) {
        return text.repeat(n);
    }

    private static String printed(Session s, String text) {
        int fault = s.read(text);
        return fault == 0 ? s.print() : "fault " + fault % 8 + " line " + fault / 8;
    }

    private static Session aliased(String... pairs) {
        Session s = new Session();
        for (int i = 0; i < pairs.length; i += 2) {
            due("alias " + pairs[i], s.put(2, pairs[i], pairs[i + 1]), true);
        }
        return s;
    }

    // "bytes 9, 10, 32 .. 126": whatever calls take them, wherever they stand; what lies behind doesn't matter.
    private static void bytesOfText() {
        for (int c = 0; c < 256; c++) {
            boolean isText = c == 9 || c == 10 || c >= 32 && c <= 126;
            for (String text : new String[] {"" + (char) c, "#" + (char) c, (char) c + "#"}) {
                int n = text.length();
                Session s = new Session();
                s.tape(text);
                due("read, byte " + c, refused(s, 0, n, 0), !isText);
                s.tape(text);
                due("input, byte " + c, refused(s, 1, n, 0), !isText);
                s.tape(text);
                due("a name, byte " + c, refused(s, 2, n, 0), !isText);
                s.tape("x" + text);
                due("a value, byte " + c, refused(s, 2, 1, n), !isText);
                s.tape("/f" + text);
                due("what doesn't matter for a directory, byte " + c, refused(s, 5, 2, n), !isText);
                s.tape(text);
                due("ask, byte " + c, refused(s, 6, n, 0), !isText);
            }
            Session s = new Session();
            s.tape("#" + (char) c);
            due("byte " + c + " behind those that are read", refused(s, 0, 1, 0), false);
        }
    }

    /** Whether the call throws; a tape that stays then is emptied. */
    private static boolean refused(Session s, int call, int n, int m) {
        try {
            if (call == 0) {
                s.shell.read(n);
            } else if (call == 1) {
                s.shell.input(n);
            } else if (call == 6) {
                s.shell.ask(0, n);
            } else {
                s.shell.put(call - 2, n, m);
            }
        } catch (IllegalArgumentException e) {
            s.shell.ask(0, 0);
            return true;
        }
        return false;
    }

    // "up to 16384 in one script; a newline (10) behind the last one if there is none (one more, then)"
    private static void lengthOfText() {
        String y = "y=" + times("y", 128) + "; y=$y$y$y$y$y$y$y$y; y=$y$y$y$y$y$y$y$y; y=$y$y; ";
        runs(y + "y=${y#?}; eval \"#$y\"; echo $?; (eval \"##$y\"; echo no); echo $?", "0\n2\n?0");
        runs(y + "y=${y#??}; eval \"#$y\"; echo $?; eval \"##$y\"; echo $?", "0\n0\n?0");
        runs(y + "eval \"$y\"; echo $?; (eval \"#$y\"; echo no); echo $?", "127\n2\n?0");
        runs(y + "y=${y#?????????}; eval echo ok \"#$y\"; (eval echo ok '' \"#$y\"; echo no); echo $?", "ok\n2\n?0");
        runs(y + "y=${y#??????????}; eval echo ok \"#$y\"; (eval echo ok '' \"#$y\"); echo $?", "ok\nok\n0\n?0");
        runs(y + "printf '#%s' ${y#?} > f; wc -c f; . ./f; echo $?", "16384\n0\n?0");
        prints("", "");
        prints("\n", "");
        prints("\n\n\n", "");
        prints("a", "a\n");
        prints("a\n", "a\n");
        faults("(", 2, 2);
        faults("(\n", 2, 2);
        faults("(\n\n", 2, 3);
        for (String text : new String[] {"", "\n", "a", "a\n"}) {
            Session s = new Session();
            s.read(text);
            due("SOURCE is as it was told: " + text, s.shell.count(14), 16 + text.length());
        }
        runs("printf 'echo a\\\\' > f; . ./f; echo $?; printf \"echo 'a\" > f; (. ./f); echo $?; > f; . ./f; echo $?", "a\n0\n2\n0\n?0");
    }

    // "A \ just ahead of a newline: both vanish, where a \ quotes": behind no other \ , and not in '..', a comment, `..`.
    private static void vanishing() {
        for (int n = 0; n <= 6; n++) {
            String left = times("\\", n - n % 2);
            String end = n % 2 == 1 ? "" : "\n";
            String all = times("\\", n);
            prints("echo a" + all + "\nb", "echo a" + left + end + "b\n");
            prints("echo \"a" + all + "\nb\"", "echo \"a" + left + end + "b\"\n");
            prints("cat <<E\na" + all + "\nb\nE", "cat << E\na" + left + end + "b\nE\n");
            prints("cat <<'E'\na" + all + "\nb\nE", "cat << 'E'\na" + all + "\nb\nE\n");
            prints("echo 'a" + all + "\nb'", "echo 'a" + all + "\nb'\n");
            prints("echo `a" + all + "\nb`", "echo `a" + all + "\nb`\n");
            prints("a #" + all + "\nb", "a\nb\n");
        }
        prints("\\\n\\\na\\\n\\\n", "a\n");
        prints("\\\n", "");
        prints("\\", "");
    }

    // NAMES: "a letter or _, then letters, digits, _"
    private static void names() {
        for (char c = 33; c < 127; c++) {
            boolean first = c >= 'A' && c <= 'Z' || c >= 'a' && c <= 'z' || c == '_';
            boolean later = first || c >= '0' && c <= '9';
            for (String name : new String[] {"" + c, "q" + c, c + "q"}) {
                boolean is = name.charAt(0) == 'q' ? later : first;
                due("variable " + name, new Session().put(0, name, "v"), is);
                due("alias " + name, new Session().put(2, name, "v"), is);
                Session s = new Session();
                s.put(0, "told", name);
                due("read " + name, s.run("read \"$told\"; unset \"$told\""), is ? "?0" : "?2");
                if ("\"'\\`$#&|;<>()~*?[={}!%+-:".indexOf(c) < 0) {
                    due("for " + name, new Session().read("for " + name + " do a; done"), is ? 0 : 9);
                    due("function " + name, new Session().read(name + "() { a; }"), is ? 0 : 9);
                    due(name + "=1", new Session().run(name + "=1"), is ? "?0" : "?127");
                    due("${" + name + "-1}", new Session().read("${" + name + "-1}"), is || name.matches("\\d|@") ? 0 : 3 + 8);
                }
            }
        }
        for (String name : new String[] {"=", "q=", "=q"}) {
            due("variable " + name, new Session().put(0, name, "v"), false);
        }
        due("no signs: a variable", new Session().put(0, "", "v"), false);
        due("no signs: an alias", new Session().put(2, "", "v"), false);
        due("9000 signs", new Session().put(0, times("n", 9000), "v"), true);
    }

    // OPERATORS: "the longest that fits"; "a COMMENT: from a # that begins a token"
    private static void operators() {
        prints("a&b", "a &\nb\n");
        prints("a&&b", "a && b\n");
        faults("a&&&b", 1, 1);
        prints("a|b", "a | b\n");
        prints("a||b", "a || b\n");
        faults("a|||b", 1, 1);
        prints("a;b", "a\nb\n");
        faults("a;;b", 1, 1);
        prints("a<b", "a < b\n");
        prints("a<&b", "a <& b\n");
        prints("a<<b\nb", "a << b\nb\n");
        prints("a<<-b\nb", "a <<- b\nb\n");
        prints("a<<--b\n-b", "a <<- -b\n-b\n");
        prints("a<< -b\n-b", "a << -b\n-b\n");
        prints("a>b", "a > b\n");
        prints("a>>b", "a >> b\n");
        prints("a>&b", "a >& b\n");
        for (String wrong : new String[] {"a<<<b", "a<<&b", "a<&&b", "a>>>b", "a>>&b", "a>&&b", "a<>b", "a><b", "a>|b", "a&|b", "a|&b"}) {
            faults(wrong, 1, 1);
        }
        prints("a&\\\n&b <\\\n<\\\n-c\nc", "a && b <<- c\nc\n");
        prints("a #b", "a\n");
        prints("a#b", "a#b\n");
        prints("a;#b", "a\n");
        prints("(#b\na)", "(\na\n)\n");
        prints("#", "");
        prints("a \\#b ''#c", "a \\#b ''#c\n");
    }

    // "A word of one digit just ahead of an operator that begins with < or > is a NUMBER of it (none at the end of an alias's text)"
    private static void numbers() {
        for (char c = '0'; c <= '9'; c++) {
            prints("a " + c + ">b", "a " + c + "> b\n");
            prints("a " + c + " >b", "a " + c + " > b\n");
            prints(c + "<b", c + "< b\n");
            prints(c + "<<-E\nE", c + "<<- E\nE\n");
            prints("a " + c + "|b", "a " + c + " | b\n");
            faults("case " + c + ">b in a) esac", 1, 1);
        }
        for (String none : new String[] {"12", "00", "/", ":", "a", "'2'", "\\2", "\"2\"", "2''", "$x", "-", "-1"}) {
            prints("a " + none + ">b", "a " + none + " > b\n");
        }
        prints("a 2\\\n>b", "a 2> b\n");
        faults("a >2>b", 1, 1);
        faults("for x in 1>b; do a; done", 1, 1);
        Session s = aliased("n", "2", "m", "a 2", "o", "2>");
        due("at the end of an alias's text", printed(s, "n>b; m>b"), "2 > b\na 2 > b\n");
        due("within an alias's text", printed(s, "o b"), "2> b\n");
    }

    // "P also of more digits (0s ahead don't matter)"
    private static void positions() {
        runs("set a b c d e f g h i j k; echo $0 $1 $9 $10 $11 ${0} ${1} ${9} ${10} ${11} ${12}. $12", "sh a i a0 a1 sh a i j k . a2\n?0");
        runs("set a b; echo ${00} ${01} ${0000000000000000000000000000002} ${#01} ${001-x} ${003-x}", "sh a b 1 a x\n?0");
        runs("set a b; echo ${4294967297-n} ${18446744073709551617-n} ${2147483648-n} ${4294967296-n} ${99999999999999999999-n}", "n n n n n\n?0");
        runs("set $(seq 1 1999); echo ${1999} ${2000-n} ${999} ${1000} $#", "1999 n 999 1000 1999\n?0");
        runs("echo $1$2$9.$#", ".0\n?0");
    }

    // HERE-DOCUMENTS: "lines up to one that is d without its quotes"; "If nothing of d is quoted ..; else the body is as it is"
    private static void hereDocuments() {
        prints("cat <<E\nE", "cat << E\nE\n");
        prints("cat <<E\n\nE", "cat << E\n\nE\n");
        prints("cat <<''\n\n", "cat << ''\n\n");
        prints("cat <<''\n\n\na", "cat << ''\n\na\n");
        prints("cat <<\"\"\na\n\nb", "cat << \"\"\na\n\nb\n");
        faults("cat <<''", 2, 2);
        faults("cat <<''\n", 2, 2);
        faults("cat <<''\na", 2, 3);
        for (String other : new String[] {"E ", " E", "EE", "e", "", "\tE", "'E'", "\\E", "E\\\\"}) {
            faults("cat <<E\n" + other + "\n", 2, 3);
            faults("cat <<E\n" + other + "\nE\n", 0, 0);
        }
        prints("cat <<-E\n\tE", "cat <<- E\nE\n");
        prints("cat <<-E\n\t\t\t\n\t a\t\n\t\tE", "cat <<- E\n\n a\t\nE\n");
        faults("cat <<-E\n E", 2, 3);
        faults("cat <<-'\tE'\n\tE", 2, 3);
        prints("cat <<'a b'\na b", "cat << 'a b'\na b\n");
        prints("cat <<\\a\"b\"'c'\nabc", "cat << \\a\"b\"'c'\nabc\n");
        prints("cat <<E <<E <<E\n1\nE\nE\n3\nE\n", "cat << E << E << E\n1\nE\nE\n3\nE\n");
        faults("cat <<E <<E\n1\nE\n", 2, 4);
        runs("x=1; cat <<E; cat <<\\E; cat <<'E'; cat <<\"E\"; cat <<E''; cat <<\"\"E" + times("\n$x\nE", 6), "1\n" + times("$x\n", 5) + "?0");
        runs("cat <<E\n\\\\\\$x\\a\\\"\"'\\`\nE", "\\$x\\a\"\"'`\n?0");
        prints("echo $(cat <<E\nin\nE\n) <<E\nout\nE", "echo $(cat <<E\nin\nE\n) << E\nout\nE\n");
        faults("echo $(cat <<E) <<E\nin\nE\nout\nE", 1, 1);
        faults("echo `cat <<E` <<E\nin\nE", 2, 2);
        for (String part : new String[] {"$x", "a$x", "${x}", "$(a)", "`a`", "$((1))", "\"$x\"", "\"`a`\"", "$1", "$@"}) {
            faults("cat <<" + part + "\n", 5, 1);
            faults("\ncat <<-\\\n" + part + "\n", 5, 3);
        }
        for (String part : new String[] {"$", "a$", "'$x'", "\\$x", "\"\\$x\"", "'`a`'", "$'a'"}) {
            String line = part.replace("\\", "").replace("'", "").replace("\"", "");
            prints("cat <<" + part + "\n" + line + "\n", "cat << " + part + "\n" + line + "\n");
        }
        faults("\ncat <<\n", 1, 2);
    }

    // "of these three the first that fits"; fault 3 "a ${ that is none of these"
    private static void braces() {
        String[] parameters = {"x", "X_1", "1", "10", "@", "*", "#", "?", "-", "$"};
        String[] operators = {":-", "-", ":=", "=", ":?", "?", ":+", "+", "%", "%%", "#", "##"};
        for (String p : parameters) {
            fine("${" + p + "}");
            fine("${#" + p + "}");
            for (String o : operators) {
                boolean all = p.equals("@") || p.equals("*");
                due("${" + p + o + "}", new Session().read("${" + p + o + "}"), all && o.matches("[%#].*") ? 11 : 0);
                due("${" + p + o + "w}", new Session().read("${" + p + o + "w}"), all && o.matches("[%#].*") ? 11 : 0);
                // Behind ${# one of # - ? is an operator of # , if no } follows it.
                due("${#" + p + o + "w}", new Session().read("${#" + p + o + "w}"), "#-?".contains(p) ? 0 : 11);
            }
            for (String none : new String[] {" ", ":", ":%", ":x", "!", "/", ",", "^", "\n", "~", "."}) {
                due("${" + p + none + "}", new Session().read("${" + p + none + "}"), 11);
            }
        }
        for (String none : new String[] {"", " ", "!", "=", "+", "%", ":", "'x'", "\\x", "\"x\"", "{", "$", "`", "&", "(", "|", "~"}) {
            due("${" + none + "}", new Session().read("${" + none + "}"), none.equals("$") ? 0 : 11);
        }
        runs("set a b; echo ${#} ${##} ${#-} ${#-x} ${##x} ${#%} ${#%x} ${###} ${##2}. ${#?} ${#$} ${#@} ${#*} ${#1}", "2 1 0 2 2 2 2 2 . 1 1 2 2 1\n?0");
    }

    // ALIASES: "At most 10 within one another (through `..` of their texts, too); beyond that it is none"
    private static void manyAliases() {
        for (int n = 1; n <= 13; n++) {
            Session plain = new Session();
            Session ticks = new Session();
            int used = Math.min(n, 10);
            int source = 18;
            for (int i = 1; i <= n; i++) {
                String next = "a" + (i + 1);
                plain.put(2, "a" + i, next + " x");
                ticks.put(2, "a" + i, "echo `" + next + "`");
                source += i <= used ? 16 + 7 + next.length() + 16 + next.length() : 0;
            }
            due(n + " aliases", printed(plain, "a1"), "a" + (used + 1) + times(" x", used) + "\n");
            ticks.read("a1");
            due(n + " aliases through `..`", ticks.shell.count(14), source);
        }
        Session row = aliased("a", "b ");
        due("one behind another", printed(row, times("a ", 30)), times("b ", 29) + "b\n");
        due("in a row of commands", printed(row, times("a;", 30)), times("b\n", 30));
    }

    // ALIASES: empty texts, blanks at the end, quotes, "not from the text of the same alias (also in a `..` of it)"
    private static void textsOfAliases() {
        Session s = aliased("a", "", "b", " ", "c", "\t", "e", "echo ", "t", "echo\t", "n", "echo", "x", "y");
        due("nothing", printed(s, "a"), "");
        due("nothing ahead of a word", printed(s, "a z"), "z\n");
        due("a blank ahead of a word", printed(s, "z; b z"), "z\nz\n");
        due("a command that is nothing", printed(s, "z | a"), "fault 2 line 2");
        due("behind a blank", printed(s, "z b x; b x; c x"), "z b x\ny\ny\n");
        due("a blank at the end", printed(s, "e x x; t x x; n x x"), "echo y x\necho y x\necho x x\n");
        due("quoted", printed(s, "e 'x'; e \\x; e x''; e \"x\"; e $x"), "echo 'x'\necho \\x\necho x''\necho \"x\"\necho $x\n");
        due("in another line", printed(s, "e\nx; e \\\nx; e >x x"), "echo\ny\necho y\necho > x x\n");
        Session own = aliased("a", "a", "p", "q", "q", "p", "r", "a b", "b", "x `b`");
        due("its own text", printed(own, "a; a; p; q; r"), "a\na\np\nq\na b\n");
        int before = own.shell.count(14);
        own.read("b");
        due("in a `..` of its own text", own.shell.count(14) - before, 16 + 1 + 16 + 5 + 16 + 1);
        due("9000 signs", new Session().put(2, "a", times("x", 9000)), true);
        runs("alias a='x\ny'; echo $?; alias 'a=\n'; echo $?; alias a=; echo $?; alias =; echo $?; alias a; echo $?", "1\n1\n0\n1\n0\n?0");
    }

    // GRAMMAR: "one or more", "or nothing", "perhaps", "any number of times"
    private static void grammar() {
        for (String wrong : new String[] {"()", "( )", "(\n)", "{ }", "{ \n }", "if\nthen a; fi", "if a; then\nfi", "if a; then b; elif\nthen c; fi", "if a; then b; elif c; then\nfi", "if a; then b; else\nfi",
            "while\ndo a; done", "while a; do\ndone", "until\ndo a; done", "until a; do\ndone", "for x do\ndone", "for x in a; do\ndone", "a |", "a &&", "a ||", "| a", "&& a", "|| a", "!", "& a", "; a", "a >", "f()",
            "case a in () b;; esac", "case a in (b|) c;; esac", "case a in |b) c;; esac", "! ! a", "a | ! b", "!\na", "case a in b) c; d) e;; esac", "case a in esac) b;; esac", "for x\n; do a; done", "for x;; do a; done",
            "for x; in a; do b; done", "for x in a; ; do b; done", "a ; ; b", "a & & b", "a; & b", "a &; b", "case a in b) ;; ;; esac"}) {
            due(wrong, new Session().read(wrong) % 8 > 0, true);
            due(wrong, new Session().read("echo $(" + wrong + "\n)") % 8 > 0, true);
            due(wrong, new Session().read("echo `" + wrong + "`") % 8 > 0, true);
        }
        for (String right : new String[] {"", "\n", "\n\n", "a", "a;", "a&", "a\n", "a;\n\n", "\n\na", "echo $()", "echo $(\n)", "echo ``", "echo $((  ))", "echo ${x-}", "case a in esac", "case a\n\nin\n\nesac", "case a in b) esac", "case a in b) ;; esac",
            "case a in b)\n\n;;\n\nesac", "case a in b) c\nesac", "for x in; do a; done", "for x in\ndo a; done", "a &&\n\nb", "a |\n\n\nb", "a ||\n\nb", "f()\n\n\n{ a; }", "{\n\na\n\n}", "(\n\na\n\n)", "x=", "x= y=", ">a", "<a >b", "! a", "! a | b", "a && ! b",
            "a ||\n! b", "case a in b) c;; d) e; esac", "case a in (esac) b;; esac", "case a in b|esac) c;; esac", "for x; do a; done", "for x;\n\ndo a; done", "for x\n\ndo a; done", "for x\n\nin a; do b; done", "for x in a;\n\ndo b; done", "a;\n\nb&\n\nc"}) {
            fine(right);
            fine("echo $( " + right + "\n)");
            fine("echo `" + right + "`");
        }
    }

    // "At most 40 compounds (a function is none besides its own), substitutions, ${ and arithmetics within one another"; fault 4
    private static void fortyWithin() {
        String[][] ways = {{"{ ", "; }"}, {"(", ")"}, {"if a; then ", "; fi"}, {"if ", "; then a; fi"}, {"if a; then b; elif ", "; then c; fi"}, {"if a; then b; else ", "; fi"}, {"while ", "; do a; done"}, {"while a; do ", "; done"},
            {"until a; do ", "; done"}, {"for x do ", "; done"}, {"for x in a; do ", "; done"}, {"case a in b) ", ";; esac"}, {"f() { ", "; }"}, {"f() (", ")"}, {"echo $(", ")"}, {"echo \"$(", ")\""}, {"x=$(", ")"}, {"> $(", ")"}, {"{ a; } > $(", ")"}};
        for (String[] way : ways) {
            within(way[0], way[1], 40);
        }
        within("for x in $(", "); do a; done", 20);
        within("case $(", ") in a) esac", 20);
        within("case a in $(", ")) esac", 20);
        String[][] parts = {{"${x-", "}"}, {"\"${x-", "}\""}, {"${x%", "}"}, {"$((", "))"}, {"${x:=\"", "\"}"}};
        for (String[] part : parts) {
            String open = "echo " + times(part[0], 39);
            String shut = times(part[1], 39);
            fine(open + shut);
            for (String last : new String[] {"${x}", "${#x}", "${x-}", "$((1))", "$(a)", "`a`", "$(( ))"}) {
                fine(open + last + last + shut);
                faults(open + part[0] + last + part[1] + shut, 4, 1);
                faults(open + part[0] + "$x\\\n" + last + part[1] + shut, 4, 2);
            }
            fine(open + part[0] + "$x$1$@" + part[1] + shut);
            fine(times("{ ", 20) + "echo " + times(part[0], 20) + times(part[1], 20) + times("; }", 20));
            faults(times("{ ", 20) + "echo " + times(part[0], 21) + times(part[1], 21) + times("; }", 20), 4, 1);
        }
        faults(times("(", 41) + ";;", 4, 1);
        faults(";;" + times("(", 41), 1, 1);
        faults("echo " + times("${x-", 40) + "${!" + times("}", 41), 4, 1);
        faults("echo " + times("${x-", 39) + "${!" + times("}", 40), 3, 1);
        fine(times("{ ", 38) + "echo `echo ${x}`" + times("; }", 38));
        faults(times("{ ", 39) + "\necho `\necho ${x}`" + times("; }", 39), 4, 2);
        Session s = aliased("a", "{ { { { {", "z", "} } } } }");
        due("40 by aliases", s.read(times("a\n", 8) + "b; " + times("z\n", 8)), 0);
        due("41 by aliases", s.read(times("a\n", 8) + "{ b; }; " + times("z\n", 8)), 4 + 8 * 9);
        due("41 by aliases", s.read("{\n" + times("a\n", 8) + "b; " + times("z\n", 8) + "}"), 4 + 8 * 9);
    }

    private static void within(String ahead, String behind, int most) {
        fine(times(ahead, most - 1) + "a" + times(behind, most - 1));
        fine(times(ahead, most) + "a" + times(behind, most) + "\n" + times(ahead, most) + "a" + times(behind, most));
        faults(times(ahead, most + 1) + "a" + times(behind, most + 1), 4, 1);
        faults(times(ahead + "\n", most + 1) + "a" + times(behind, most + 1), 4, most + 1);
    }

    // FAULTS: "Lines count from 1, those of an alias are its word's, those of a `..` its own"; "the first one that is met from the left"
    private static void lines() {
        for (int n = 0; n < 4; n++) {
            String lines = times("\n", n);
            faults(lines + ")", 1, n + 1);
            faults(lines + "(", 2, n + 2);
            faults("(" + lines, 2, n == 0 ? 2 : n + 1);
            faults(lines + "${", 3, n + 1);
            faults(lines + times("(", 41), 4, n + 1);
            faults(lines + "<<$x", 5, n + 1);
            faults("a '" + lines + "' b (", 1, n + 1);
            faults("a " + times("\\\n", n) + "b (", 1, n + 1);
            faults("{ a; } 'b" + lines + "'", 1, 1);
            faults("cat <<E\n" + lines + "${x\nE", 3, n + 2);
            faults("cat <<E\n" + lines + "${x-\nE", 2, n + 3);
            faults("cat <<E\n" + lines + "$(\nE", 2, n + 3);
            faults("cat <<E\n" + lines + "$(\n\\\n\\\nE", 2, n + 3);
            faults("echo `" + lines + ")`", 1, n + 1);
            faults("\n\necho `" + lines + "(`", 2, n == 0 ? 2 : n + 2);
            faults("echo $(" + lines + ";)", 1, n + 1);
            Session s = aliased("a", "x )", "b", "x '", "c", "${", "d", "x <<$y", "e", times("( ", 41), "f", "a", "g", "x $(");
            due("alias, fault 1", s.read(lines + "a"), 1 + 8 * (n + 1));
            due("alias in an alias", s.read(lines + "f"), 1 + 8 * (n + 1));
            due("alias, fault 2", s.read(lines + "b"), 2 + 8 * (n + 1));
            due("alias, fault 2", s.read(lines + "c"), 2 + 8 * (n + 1));
            due("alias, fault 2", s.read(lines + "g"), 2 + 8 * (n + 1));
            due("alias, fault 5", s.read(lines + "d"), 5 + 8 * (n + 1));
            due("alias, fault 4", s.read(lines + "e"), 4 + 8 * (n + 1));
        }
        faults("echo $(\ncat <<E)\nE\n", 1, 2);
        faults("${!} )", 3, 1);
        faults(") ${!}", 1, 1);
        faults("a )${!}", 1, 1);
        faults("{ a; } ${!}", 3, 1);
        faults("{ a; } 'b", 2, 2);
        faults("cat <<$x${!}", 3, 1);
        faults("cat <<$x; )", 5, 1);
    }

    /** A shell that has read so much. */
    private static Session sourced(int source) {
        Session s = new Session();
        s.run("y=" + times("y", 128) + "; y=$y$y$y$y$y$y$y$y; y=$y$y$y$y$y$y$y$y; eval \"#$y\"; eval \"#$y\"; eval \"#$y\"; eval \"#$y\"; y=;");
        s.read(times("#", 4999));
        s.read(times("#", source - s.shell.count(14) - 16));
        due("SOURCE", s.shell.count(14), source);
        return s;
    }

    // SOURCE: "at most 40000"; fault 6 "as soon as a text begins that SOURCE has no room for (line 0)"
    private static void source() {
        for (int more = -1; more <= 1; more++) {
            boolean room = more <= 0;
            Session s = sourced(40000 - 26 + more);
            due("a script, room and " + more, s.read("echo abcde"), room ? 0 : 6);
            due("SOURCE, room and " + more, s.shell.count(14), room ? 40000 + more : 40000 - 26 + more);
            due("a script then", s.shell.count(17), room ? 1 : -1);
            due("an empty script", sourced(40000 - 16 + more).read(""), room ? 0 : 6);
            s = sourced(40000 - 16 - 9 - 16 - 2 + more);
            due("`..`, room and " + more, s.read("echo `a;`"), room ? 0 : 6);
            due("SOURCE, room and " + more, s.shell.count(14), room ? 40000 + more : 40000 - 18 + more);
            due("ahead of `..`", sourced(40000 - 16 - 9 - 17 + more).read(") echo`a`"), 9);
            due("behind `..`", sourced(40000 - 16 - 11 - 17 + more).read("echo `a` ) "), room ? 9 : 6);
            due("within `..`", sourced(40000 - 16 - 11 - 19 + more).read("echo `a )` "), room ? 9 : 6);
            due("within `..` in `..`", sourced(40000 - 16 - 14 - 22 - 17 + more).read("\necho `\n\\`a\\``"), room ? 0 : 6);
            s = sourced(40000 - 16 - 3 - 40 + more);
            s.put(2, "a", "x  y");
            due("an alias twice, room and " + more, s.read("a;a"), room ? 0 : 6);
            due("SOURCE, room and " + more, s.shell.count(14), room ? 40000 + more : 40000 - 20 + more);
            s = sourced(40000 - 16 - 14 - 22 + more);
            due("eval, room and " + more, s.run("eval 'echo a'\n"), room ? "a\n?0" : "?2");
            due("SOURCE, room and " + more, s.shell.count(14), room ? 40000 + more : 40000 - 22 + more);
            s = sourced(40000 - 16 - 4 - 23 + more);
            s.put(1, "/f", "echo a\n");
            due(". , room and " + more, s.run(". f\n"), room ? "a\n?0" : "?2");
            s = sourced(40000 - 16 - 4 - 19 + more);
            s.put(1, "/f", ": `");
            due(". with a fault, room and " + more, s.run(". f\n"), "?2");
            due("it began, or not", s.shell.count(14), room ? 40000 + more : 40000 - 19 + more);
            s = sourced(40000 - 16 - 22 - 19 + more);
            due("eval in a subshell, room and " + more, s.run("(eval ': a'); echo $?\n"), room ? "0\n?0" : "2\n?0");
        }
        Session s = sourced(40000);
        s.shell.reset();
        due("SOURCE stays", s.shell.count(14), 40000);
        due("no room any more", s.read(""), 6);
        due("SOURCE stays", s.shell.count(14), 40000);
    }

    public static void main(String[] args) {
        bytesOfText();
        lengthOfText();
        vanishing();
        names();
        operators();
        numbers();
        positions();
        hereDocuments();
        braces();
        manyAliases();
        textsOfAliases();
        grammar();
        fortyWithin();
        lines();
        source();
        Session.end();
    }
}
