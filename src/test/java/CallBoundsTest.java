/**
 * The boundary cases of the calls, promise by promise: what is refused, and all that it leaves as it was; the least and
 * the greatest arguments; what is empty and what is full. Above each method stands what it tries.
 */
public final class CallBoundsTest {
    private static final int FINE = 0;
    private static final int ARGUMENT = 1;
    private static final int STATE = 2;

    private static void due(String what, Object got, Object want) {
        Session.due(what, got, want);
    }

    private static String times(String text, int n) {
        return text.repeat(n);
    }

    /** A call by its name: what it throws. */
    private static int thrown(Session s, String call, int... with) {
        try {
            switch (call) {
                case "read":
                    s.shell.read(with[0]);
                    break;
                case "print":
                    s.shell.print();
                    break;
                case "run":
                    s.shell.run(with[0]);
                    break;
                case "input":
                    s.shell.input(with[0]);
                    break;
                case "put":
                    s.shell.put(with[0], with[1], with[2]);
                    break;
                default:
                    s.shell.ask(with[0], with[1]);
            }
        } catch (IllegalArgumentException e) {
            return ARGUMENT;
        } catch (IllegalStateException e) {
            return STATE;
        }
        return FINE;
    }

    /** All that can be seen without a change: the counts, and the bytes of the print, of 1, of 2, of the answer. */
    private static String seen(Session s) {
        StringBuilder all = new StringBuilder();
        for (int what = -2; what <= 20; what++) {
            all.append(s.shell.count(what)).append(' ');
        }
        for (int which = -1; which <= 4; which++) {
            all.append('|');
            for (int i = -1; i < 400; i++) {
                int c = s.shell.byteAt(which, i);
                all.append(c < 0 ? "" : String.valueOf((char) c));
            }
        }
        return all.toString();
    }

    /** The rest, which is seen by calls that change something: what the tape has, and what a script finds. */
    private static String found(Session s, int whole) {
        StringBuilder all = new StringBuilder();
        all.append(s.shell.read(whole)).append(seen(s));
        all.append(s.run("echo $x $y ${z-u} $# $* $- $?; pwd; ls; ls d; f; al; read q; echo $q; y=3; echo no")).append(seen(s));
        for (int kind = 0; kind < 5; kind++) {
            for (String name : new String[] {"x", "f", "al", "/", "/d", "/d/e"}) {
                all.append(s.ask(kind, name)).append(',');
            }
        }
        return all.append(seen(s)).toString();
    }

    /** A shell in which all is full of something; the tape has so many bytes of a text, and then others. */
    private static Session furnished(int state) {
        Session s = new Session();
        if (state > 0) {
            s.put(2, "al", "echo alias");
            s.input("one\ntwo\n");
            s.read("x=1; readonly y=2; f() { echo $1; }; mkdir d; echo e > d/e; set p q; cd d; echo out; echo err >&2; read l; (exit 3)");
            s.shell.run(100);
        }
        if (state == 2) {
            s.ask(0, "x");
            s.read("echo last; cat <<E\nbody\nE");
            s.shell.print();
        } else if (state == 3) {
            s.read(")");
            s.ask(0, "nothing");
        }
        s.tape("echo a \u007f");
        return s;
    }

    private static final String[] CALLS = {"read -1", "read 21", "read 8", "read 20", "read 2147483647", "read -2147483648", "input -1", "input 21", "input 8", "input 20", "input 2147483647", "input -2147483648",
        "ask -1 1", "ask 5 1", "ask 2147483647 1", "ask -2147483648 1", "ask 0 -1", "ask 0 21", "ask 0 8", "ask 1 20", "ask 2 2147483647", "ask 3 -2147483648", "ask 4 9", "ask 9 99", "ask 5 0",
        "put -1 1 1", "put 4 1 1", "put 2147483647 1 1", "put -2147483648 1 1", "put 0 -1 1", "put 0 1 -1", "put 0 -1 -1", "put 0 21 0", "put 0 0 21", "put 0 1 20", "put 0 20 1", "put 0 1 7", "put 0 7 1", "put 0 8 0", "put 0 0 8", "put 1 2147483647 1",
        "put 1 1 2147483647", "put 1 2147483647 2147483647", "put 2 -2147483648 1", "put 2 1 -2147483648", "put 3 -2147483648 -2147483648", "put 3 2 6", "put 1 2 6", "put 2 2 6", "put 3 -1 8", "put 9 99 99", "run -1", "run 100001", "run 2147483647", "run -2147483648"};

    // "A call that throws changes nothing."
    private static void refused() {
        for (int state = 0; state <= 3; state++) {
            boolean script = state == 1 || state == 2;
            for (String call : CALLS) {
                String[] words = call.split(" ");
                int[] with = new int[words.length - 1];
                for (int i = 0; i < with.length; i++) {
                    with[i] = Integer.parseInt(words[i + 1]);
                }
                Session s = furnished(state);
                Session twin = furnished(state);
                due(call + " in " + state, thrown(s, words[0], with), words[0].equals("run") && !script ? STATE : ARGUMENT);
                due(call + " in " + state + " changes nothing", seen(s), seen(twin));
                due(call + " in " + state + " changes nothing", found(s, 7), found(twin, 7));
            }
            Session s = furnished(state);
            Session twin = furnished(state);
            if (!script) {
                for (int most : new int[] {0, 1, 100000}) {
                    due("run " + most + " without a script", thrown(s, "run", most), STATE);
                }
                due("print without a script", thrown(s, "print"), STATE);
            }
            for (int i : new int[] {-2147483648, -1, 400, 65536, 2147483647}) {
                for (int which = -1; which <= 4; which++) {
                    due("byteAt " + which + " " + i, s.shell.byteAt(which, i), -1);
                }
            }
            for (int what : new int[] {-2147483648, -1, 19, 20, 2147483647}) {
                due("count " + what, s.shell.count(what), -1);
            }
            due("nothing is changed", seen(s), seen(twin));
            due("nothing is changed", found(s, 7), found(twin, 7));
        }
    }

    // put that answers false, ask that answers NONE, read that answers a fault: what goes, and what stays
    private static void unanswered() {
        String[] puts = {"0||v", "0|1|v", "0|a-b|v", "0| a|v", "0|y|v", "0|y|", "1|f|v", "1||v", "1|/|v", "1|/d|v", "1|/d/|v", "1|/n/f|v", "1|/d/e/|v", "1|/d/e/f|v", "1|/.|v", "1|/d/..|v", "1|/" + times("n", 61) + "|v",
            "2||v", "2|1|v", "2|a b|v", "2|al|a\nb", "2|al|\n", "2|new|v\n", "3|d|", "3||", "3|/|", "3|/d|", "3|/d/|", "3|/d/e|", "3|/new/|", "3|/n/d|", "3|/d/.|", "3|/d/../d|v", "3|/" + times("n", 61) + "|"};
        for (int state = 1; state <= 3; state++) {
            for (String row : puts) {
                String[] parts = row.split("\\|", 3);
                Session s = furnished(state);
                Session twin = furnished(state);
                s.shell.ask(0, 0);
                twin.shell.ask(0, 0);
                due("put " + row, s.put(Integer.parseInt(parts[0]), parts[1], parts[2]), false);
                due("put " + row + " changes nothing", seen(s), seen(twin));
                due("put " + row + " changes nothing", found(s, 0), found(twin, 0));
            }
            for (String row : new String[] {"0|q", "0|", "0|f", "0|al", "0|1", "0|sh", "0|#", "1|/", "1|/d", "1|e", "1|d/e", "1|/d/e/", "1|/x", "1|", "1|/dev/null", "2|x", "2|", "2|q", "3|x", "3|", "3|echo", "3|eval", "4|/d/e", "4|d", "4|/x", "4|", "4|.", "4|/d/e/."}) {
                Session s = furnished(state);
                Session twin = furnished(state);
                s.shell.ask(0, 0);
                twin.shell.ask(0, 0);
                due("an answer is there", s.ask(0, "x"), "1");
                due("ask " + row, s.ask(row.charAt(0) - '0', row.substring(2)), null);
                due("ask " + row + ": the tape", s.shell.count(0), 0);
                due("ask " + row + ": no answer", s.shell.byteAt(3, 0), -1);
                twin.ask(0, "nothing");
                due("ask " + row + " changes nothing else", seen(s), seen(twin));
                due("ask " + row + " changes nothing else", found(s, 0), found(twin, 0));
            }
            for (String text : new String[] {")", "(", "${!}", times("(", 41), "<<$x"}) {
                Session s = furnished(state);
                Session twin = furnished(state);
                s.shell.ask(0, 0);
                twin.shell.ask(0, 0);
                due("read " + text, s.read(text) % 8 > 0, true);
                due("no script, no print, no commands", s.shell.count(17) + s.shell.count(18) + s.shell.byteAt(0, 0), -3);
                due("no script", thrown(s, "run", 5) + thrown(s, "print"), 2 * STATE);
                due("the tape", s.shell.count(0), 0);
                due("SOURCE", s.shell.count(14), twin.shell.count(14) + 16 + text.length());
                s.read("");
                twin.read("#" + text.replace("\n", ""));
                twin.read("");
                due("all else is as it was", seen(s).replaceFirst(" \\d+ (\\d+ \\d 0 -1)", " $1"), seen(twin).replaceFirst(" \\d+ (\\d+ \\d 0 -1)", " $1"));
            }
        }
    }

    // feed: "the highest of a first"; "NONE, changing nothing, when there would be more than 16384"
    private static void feeds() {
        Session s = new Session();
        due("in their order", s.shell.feed(0x3a202122, 0x27232425, 0x26272829, 0x2a2b272d, 0x2e2f3031), 20);
        due("behind", s.shell.feed(0x32333435, 0x36373839, 0x0a70776d, 0x7e7e7e7e, 0xffffffff), 40);
        due("in their order", s.shell.read(30), 2 + 8 * 3);
        s.tape("printf '%s' abcdefghijklmnopqrstuvwxyz");
        due("two feeds", s.shell.count(0), 40);
        s.shell.read(38);
        s.shell.run(1);
        due("in their order", s.bytes(1, 26), "abcdefghijklmnopqrstuvwxyz");
        for (int i = 1; i <= 819; i++) {
            due("feed", s.shell.feed(0x61616161, 0x61616161, 0x61616161, 0x61616161, 0x61616161), 20 * i);
        }
        String before = seen(s);
        due("more than 16384", s.shell.feed(0, 0, 0, 0, 0), -1);
        due("more than 16384", s.shell.feed(-1, -1, -1, -1, -1), -1);
        due("nothing is changed", seen(s), before);
        due("all of it", s.shell.put(0, 1, 16379), true);
        due("room again", s.shell.feed(0, 0, 0, 0, 0), 20);
        Session all = new Session();
        all.tape("#" + times("x", 16379));
        due("all of a full tape as a script", all.shell.read(16380), 0);
        due("its SOURCE", all.shell.count(14), 16396);
        all.tape(times("x", 16380));
        due("one byte more than there is", thrown(all, "input", 16381), ARGUMENT);
        all.shell.input(16380);
        due("all of a full tape as input", all.shell.count(4), 16380);
        due("its length", s.shell.ask(0, 0), -1);
        due("its length", s.ask(0, "a").length(), 16379);
    }

    // read: nothing, a part, all of the tape; the tape is empty then
    private static void reads() {
        for (int n = 0; n <= 20; n++) {
            Session s = new Session();
            s.tape("a a a a a a a a a a ");
            due("read " + n, s.shell.read(n), 0);
            due("the tape", s.shell.count(0), 0);
            due("commands", s.shell.count(17), n == 0 ? 0 : 1);
            due("no print yet", s.shell.count(18), -1);
            due("print", s.print(), n == 0 ? "" : times("a ", (n + 1) / 2).trim() + "\n");
            due("its length", s.shell.count(18), n == 0 ? 0 : (n + 1) / 2 * 2);
            due("the byte behind it", s.shell.byteAt(0, s.shell.count(18)), -1);
            due("again", s.shell.print(), s.shell.count(18));
            due("again nothing", s.shell.read(0), 0);
            due("no print any more", s.shell.count(18) + s.shell.byteAt(0, 0), -2);
        }
        due("read 0 of an empty tape", thrown(new Session(), "read", 0), FINE);
        due("read 1 of an empty tape", thrown(new Session(), "read", 1), ARGUMENT);
    }

    // A fault, within whatever it is met, says nothing to the next text.
    private static void behindFaults() {
        String right = "f() { a $(b; c) `d` ${x-\"$y\"} $((1)); } 2> e <<E; for i in a; do case b in c) d;; esac; done | e\n$(x)\nE\n";
        Session fresh = new Session();
        due("read", fresh.read(right), 0);
        String print = fresh.print();
        String[] within = {"%", "a %", "a $(%", "a `%`", "a \"$(%", "a $(b `%`", "a ${x-$(%", "a $(( $(%", "{ %", "( %", "if %", "for i in $(%", "case $(%", "case a in $(%", "f() { %", "> $(%", "cat <<E\n$(%\nE\n", "cat <<E $(%", "x=$(cat <<E\n$(%\nE\n", "! %", "a | %", "a && %", "a 2>%"};
        String[] wrong = {";;", "${!}", "'", "\"", "(", "${x-", "$((", "`", "<<$x\n", "<<E", times("( ", 41), times("$(a ", 41), times("${x-", 41), "$(a", "&&", "; do", "2>", "a b () "};
        for (String ahead : within) {
            Session s = new Session();
            for (String text : wrong) {
                String whole = ahead.replace("%", text);
                due(whole, s.read(whole) % 8 > 0, true);
                int source = s.shell.count(14);
                due("behind " + whole, s.read(right), 0);
                due("SOURCE behind " + whole, s.shell.count(14) - source, fresh.shell.count(14));
                due("commands behind " + whole, s.shell.count(17), fresh.shell.count(17));
                due("print behind " + whole, s.print(), print);
            }
        }
    }

    // run: "it was stopped ahead of its simple command more than most"; "left as by an error, subshells too, with status 130"
    private static void stops() {
        String script = "x=0; mkdir d; f() { x=$(x=9; echo $1); set q; cd d; }\n(x=5; cd /d; set a b; set -f) > o\necho $(x=6; echo a; echo b) | { x=7; cat; }\neval 'x=1; f 3; :'\n"
            + "echo '. ./t; :' > s; echo ': x; :' > t; . ./s & if :; false; then :; elif :; then case a in a) :; esac; fi; while [ ${#y} -lt 2 ]; do y=a$y; done; z=8 g=9 echo $x; x=2; { :; : >&2; } > p 2> q; ! :; : && : || :; for i in 1 2; do : $i; done; : ${u=$(:; echo w)} $(($(echo 1)))";
        Session all = new Session();
        due("its faults", all.read(script), 0);
        due("to its end", all.shell.run(100000), 0);
        int most = all.shell.count(13);
        String out = all.bytes(1, all.shell.count(2));
        due("simple commands", most, 50);
        for (int n = 0; n <= most + 1; n++) {
            Session s = new Session();
            s.read(script);
            due("run " + n, s.shell.run(n), n < most ? 1 : 0);
            due("run " + n + ": simple commands", s.shell.count(13), Math.min(n, most));
            due("run " + n + ": status", s.shell.count(1), n < most ? 130 : all.shell.count(1));
            due("run " + n + ": written", out.startsWith(s.bytes(1, s.shell.count(2))), true);
            s.shell.clear();
            due("run " + n + ": undone", s.run("echo $# [$-] ${z-u}${g-u}; echo e >&2"), "0 [] uu\n[2]e\n?0");
        }
        Session s = new Session();
        s.read("{ (f() { echo $(: | { for i in 1; do eval 'while x=1; do . ./s; done'; done; }); }; f) & } && :");
        s.put(1, "/s", "case $(set a; echo a) in $(cd d; echo b; x=2)) esac; alias a=b; unset x\n");
        for (int n = 0; n < 40; n++) {
            due("run " + n, s.shell.run(n), 1);
            due("run " + n + ": variables, functions, aliases, parameters", s.shell.count(5) + s.shell.count(7) + s.shell.count(8) + s.shell.count(9), 0);
            due("run " + n + ": status", s.shell.count(1), 130);
        }
        Session none = new Session();
        none.read("f() { :; }; { f() { :; }; }; for i in; do :; done; case a in esac; if f() { :; }; then f() { :; }; fi; (f() { x; })");
        due("no simple commands", none.shell.run(0), 0);
        due("none", none.shell.count(13), 0);
        none.read(":");
        due("one too many", none.shell.run(0), 1);
        due("just one", none.shell.run(1), 0);
        due("one", none.shell.count(13), 1);
        due("one more could", none.shell.run(2), 0);
        due("100000", none.shell.run(100000), 0);
    }

    // input: "the input 0 that is read from its beginning"
    private static void inputs() {
        Session s = new Session();
        s.input("ab\ncd");
        due("not read", s.shell.count(4), 5);
        due("read", s.run("read x; echo $x"), "ab\n?0");
        due("not read", s.shell.count(4), 2);
        s.input("ef\n");
        due("in place of what was there", s.shell.count(4), 3);
        due("read", s.run("cat; cat"), "ef\n?0");
        due("not read", s.shell.count(4), 0);
        s.input("");
        due("nothing", s.run("read x; echo $?"), "1\n?0");
        s.tape("gh\nij");
        s.shell.input(1);
        due("a part", s.shell.count(4), 1);
        due("the tape", s.shell.count(0), 0);
        due("read", s.run("read x; echo $x$?"), "g1\n?0");
    }

    // "What was written is kept up to 65536 bytes each; more is lost."
    private static void written() {
        for (int number = 1; number <= 2; number++) {
            for (int more = -1; more <= 2; more++) {
                Session s = new Session();
                // 48894 and 16388 bytes, then what is left.
                s.put(0, "x", times("x", 254 + more));
                s.read("{ seq 1 10000; seq 1 3499; printf %s $x; } >&" + number);
                s.shell.run(9);
                due("kept", s.shell.count(1 + number), Math.min(65536, 65536 + more));
                due("of the other", s.shell.count(4 - number), 0);
                due("the last byte", s.shell.byteAt(number, 65535), more < 0 ? -1 : (int) 'x');
                due("a byte behind", s.shell.byteAt(number, 65536), -1);
                s.read("echo abc >&" + number + "; echo de >&" + (3 - number));
                s.shell.run(9);
                due("kept", s.shell.count(1 + number), 65536);
                due("of the other", s.shell.count(4 - number), 3);
                due("clear", s.shell.clear(), 65539);
                due("gone", s.shell.count(2) + s.shell.count(3), 0);
                due("gone", s.shell.byteAt(1, 0) + s.shell.byteAt(2, 0), -2);
                due("clear again", s.shell.clear(), 0);
                s.read("echo f >&" + number);
                s.shell.run(9);
                due("room again", s.bytes(number, 2), "f\n");
            }
        }
        due("nothing was written", new Session().shell.clear(), 0);
    }

    // reset: "All is as at first, but SOURCE, WORK and the tape."
    private static void resets() {
        for (int state = 0; state <= 3; state++) {
            Session s = furnished(state);
            int source = s.shell.count(14);
            int work = s.shell.count(15);
            s.shell.reset();
            due("reset in " + state, seen(s), "-1 -1 20 0 0 0 0 0 0 0 0 0 0 1 0 0 " + source + " " + work + " 0 -1 -1 -1 -1 ||||||");
            due("no script", thrown(s, "run", 5) + thrown(s, "print"), 2 * STATE);
            due("the tape", s.shell.read(7), 0);
            due("as at first", s.run("echo $x ${y-u} $# [$-] $? $0; pwd; ls; f; echo $?; al; echo $?; cat; y=3; echo $y; set -u; echo $u"), "u 0 [] 0 sh\n/\n127\n127\n3\n?2");
            s.shell.reset();
            due("again", s.run("echo $u$- ${y-u}; (exit 4)"), "u\n?4");
            s.shell.reset();
            due("status", s.shell.count(1), 0);
            s.shell.reset();
            due("simple commands", s.shell.count(13), 0);
        }
    }

    // count: each at nothing and at something
    private static void counts() {
        Session s = new Session();
        for (int i = 0; i < 40; i++) {
            due("variables", s.shell.count(5), i);
            due("aliases", s.shell.count(8), i);
            due("functions", s.shell.count(7), i);
            due("read-only ones", s.shell.count(6), i / 2);
            due("parameters", s.shell.count(9), i);
            due("files", s.shell.count(10), i);
            due("directories", s.shell.count(11), 1 + i / 2);
            due("bytes", s.shell.count(12), i * (i - 1) / 2);
            due("put", s.put(0, "v" + i, ""), true);
            due("put", s.put(2, "a" + i, ""), true);
            due("put", s.put(1, "/f" + i, times("x", i)), true);
            s.run("n" + i + "() { :; }; set -- \"$@\" ''" + (i % 2 == 1 ? "; readonly v" + i + "; mkdir d" + i : ""));
        }
        s.run("f() { :; }; unset -f n0 n1 n1 nothing; unset v0 v0 nothing; unalias a0 a1; rm f0 f39; shift 2");
        due("variables", s.shell.count(5), 39);
        due("functions", s.shell.count(7), 39);
        due("aliases", s.shell.count(8), 38);
        due("parameters", s.shell.count(9), 38);
        due("files", s.shell.count(10), 38);
        due("bytes", s.shell.count(12), 780 - 39);
        String[][] commands = {{"", "0"}, {"\n", "0"}, {":", "1"}, {"x=1", "1"}, {">f", "1"}, {":;:", "2"}, {"(:)", "2"}, {"{ :; }", "2"}, {"f() { :; }", "3"}, {"f() (g() { :; })", "5"}, {": $(:;:) `:`", "1"}, {"if :; then :; elif :; then :; else :; fi", "6"}, {"while :; do :; done | :", "4"}, {"for i do : & done", "2"},
            {"case a in b) ;; c) :;; esac", "2"}, {"! : && ! : || :", "3"}, {"cat <<E\n$(:)\nE\n", "1"}, {"{ :; } > $(:)", "2"}};
        for (String[] row : commands) {
            due(row[0], s.read(row[0]), 0);
            due("commands of " + row[0], s.shell.count(17), Integer.parseInt(row[1]));
        }
    }

    public static void main(String[] args) {
        refused();
        unanswered();
        feeds();
        reads();
        behindFaults();
        stops();
        inputs();
        written();
        resets();
        counts();
        Session.end();
    }
}
