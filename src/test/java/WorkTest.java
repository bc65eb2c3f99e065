/** SOURCE and WORK, which promise 12 tells: what each thing that is read or done costs. */
public final class WorkTest {
    /** The WORK of a script, ahead of which another one was run. */
    private static void works(String ahead, String text, int want) {
        Session s = new Session();
        s.run(ahead);
        int before = s.shell.count(15);
        String said = s.run(text);
        Session.due(ahead + " // " + text + " (" + said + ")", s.shell.count(15) - before, want);
    }

    private static void works(String text, int want) {
        works("", text, want);
    }

    private static void source(String ahead, String text, int want) {
        Session s = new Session();
        s.run(ahead);
        int before = s.shell.count(14);
        s.run(text);
        Session.due(ahead + " // " + text, s.shell.count(14) - before, want);
    }

    private static void commands() {
        works("", 0);
        works(":", 16 + 9);
        works(": ab 'c d' \"\"", 16 + 9 + 10 + 11 + 8);
        works("x=1", 16 + 9);
        works("x= y=abc", 16 + 8 + 11);
        works("x=ab :", 16 + 9 + 10);
        works("nothing", 16 + 8 + 7);
        works("> f", 16 + 9);
        works(": > f 2> n/g 2>&1", 16 + 9 + 9 + 8 + 3);
        works("3> f :", 16 + 9 + 9);
        works("x=1 > n/f", 16 + 11);
        works("(:)", 16 + 25);
        works("{ :; :; }", 16 + 50);
        works("{ :; } > f", 16 + 9 + 25);
        works("{ :; } > n/f", 16 + 8 + 3);
        works("f() { :; }", 16);
        works("f() { :; }; f a", 16 + 16 + 9 + 9 + 16 + 25);
        works("if :; then :; else :; fi", 16 + 50);
        works("! : && : || :", 25 + 25);
        works(": | :", 50);
        works(": &", 25);
        works("while false; do :; done", 16 + 16 + 13);
        works("for x in a bc; do :; done", 16 + 9 + 10 + 50);
        works("set a b c", "for x; do break; done", 16 + 3 + 16 + 13);
        works("set a b c", "for x do :; done", 16 + 3 + 75);
        works("for x do :; done", 16);
        works("set a b c d", "shift 3", 16 + 13 + 9 + 1);
        works("set a b c d", "shift", 16 + 13 + 3);
        works("case abc in a|b) :;; ab*) :;; c) :; esac", 16 + 11 + 9 + 9 + 11 + 25);
        works("eval ': a'", 16 + 12 + 11 + 25 + 9);
        works("echo : > f", ". ./f", 16 + 9 + 11 + 2 + 25);
        works(". nofile", 16 + 9 + 14);
        works(": ${u?}; :", 16 + 9);
    }

    private static void words() {
        works("x=abc", ": $x \"$x\" ${#x}$x", 16 + 9 + 11 + 11 + 12);
        works(": $u", 16 + 9 + 8);
        works("HOME=/h", ": ~/a", 16 + 9 + 12);
        works(": ${u-ab} ${u-}", 16 + 9 + 10 + 10 + 8 + 8);
        works("x=1", ": ${x-ab} ${x+ab}", 16 + 9 + 9 + 10 + 10);
        works(": ${u=ab}", 16 + 9 + 10 + 10);
        works(": ${u-${v-a}b}", 16 + 9 + 9 + 10 + 10);
        works("x=abcab", ": ${x%b} ${x##*a}", 16 + 9 + 9 + 5 + 12 + 10 + 5 + 9);
        works(": ${u%b}", 16 + 9 + 8);
        works("x=abc", ": ${x%} ${x##} $x", 16 + 9 + 8 + 3 + 11 + 8 + 3 + 11 + 11);
        works("x=", ": ${x%a}", 16 + 9 + 9 + 8);
        works(": $((1+2)) $(( ))", 16 + 9 + 11 + 9 + 9 + 9);
        works("x=7", ": $(($x+${x}0))", 16 + 9 + 12 + 10);
        works("set a bc ''", ": $@ \"$*\" \"$@\"", 16 + 9 + 13 + 13 + 13);
        works("set a bc ''", "x=$@; IFS=; x=$*", 16 + 13 + 24 + 16 + 11);
        works("x='a b  c'", ": $x", 16 + 9 + 14);
        works(": $(echo ab) `echo c`", 16 + 9 + (16 + 12 + 10 + 3) + 10 + (16 + 12 + 9 + 2) + 9);
        works("x=$(:)", 16 + 25 + 8);
        works("cat <<E\nab $((1))\nE", 16 + 11 + 9 + 8 + 5 + 5 + 5);
        works("cat <<'E' <<F\nab\nE\nF", 16 + 11 + 11 + 8);
        works("case $(:) in \"$x\") esac", 16 + 25 + 8 + 8);
    }

    private static void paths() {
        works("> a; > bc; mkdir d; > d/e; > d/fg", ": *", 16 + 9 + 9 + 9 + 10 + 9);
        works("> a; > bc; mkdir d; > d/e; > d/fg", ": */*", 16 + 9 + 11 + 9 + 11 + 12);
        works("> a; > bc; mkdir d; > d/e; > d/fg", ": /*/ q* *a", 16 + 9 + 11 + 8 + 10 + 11 + 10 + 10 + 9);
        works("> a; > bc; mkdir d; > d/e; > d/fg", ": d//?? ./[b]c", 16 + 9 + 13 + 9 + 10 + 8 + 5 + 14 + 9 + 12);
        works("set -f; > a", ": *", 16 + 9 + 9);
        works("mkdir d ef; > a", ": */ */. */..", 16 + 9 + (10 + 9 + 10 + 10 + 11) + (11 + 9 + 10 + 11 + 12) + (12 + 9 + 10 + 12 + 13));
        works("> a", "x=*; : > *; case * in *) esac", 16 + 9 + 16 + 9 + 9 + 16 + 9 + 9);
        int sum = 16 + 9 + 8 + 11 + 13 * 9 + 13 * 12 + 169 * 14 + 169 * 17 + 16000;
        works("mkdir a b c d e f g h i j k l m", ": */../*/../*", sum);
        Session s = new Session();
        StringBuilder name = new StringBuilder();
        for (int i = 0; i < 59; i++) {
            name.append('n');
        }
        s.run("for i in a b c d e f g h i j k l m n o p q r s t u v w x; do mkdir " + name + "$i; done");
        int before = s.shell.count(15);
        Session.due("too long together", s.run(": */../*; echo no"), "?2");
        Session.due("its work", s.shell.count(15) - before, 16 + 9 + 8 + 6 + 24 * 68 + 24 * 71 + 16000);
    }

    private static void bytes() {
        works("echo abc", 16 + 12 + 11 + 4);
        works("echo abc >&- ", 16 + 12 + 11 + 9 + 4);
        works("echo abc > f", "cat f", 16 + 11 + 9 + 4 + 4);
        works("echo abc > f", "cat < f > /dev/null", 16 + 11 + 9 + 17 + 4 + 4);
        works("echo abc > f", "wc -l f f", 16 + 10 + 10 + 9 + 9 + 8 + 2);
        works("echo abc > f", "cp f g", 16 + 10 + 9 + 9 + 8);
        works("echo abc > f", "cp f n/g", 16 + 10 + 9 + 11);
        works("echo abc > f", "mv f g", 16 + 10 + 9 + 9);
        works("echo abc > f", "head -n 0 f", 16 + 12 + 10 + 9 + 9 + 4);
        works("echo abc > f", "{ read x; } < f", 16 + 9 + 16 + 12 + 9 + 4);
        works("echo abc > f", "test -e f; > f", 16 + 12 + 10 + 9 + 16 + 9);
        works("printf '%d' x", 16 + 14 + 10 + 9);
        works("ls; pwd", 16 + 10 + 16 + 11 + 2);
        works("mkdir abc", "ls", 16 + 10 + 4);
        works("echo abc | cat", 16 + 12 + 11 + 4 + 16 + 11 + 8);
        works("head -n x f", 16 + 12 + 10 + 9 + 9);
        works("seq 1 4000 > f", 16 + 11 + 9 + 12 + 9 + 18893);
    }

    /** A shell that has done so much. */
    private static Session worked(int work) {
        Session s = new Session();
        s.run("seq 1 10000; seq 1 10000");
        while (work - s.shell.count(15) > 9000) {
            s.run("seq 1 1000");
        }
        StringBuilder text = new StringBuilder();
        int rest = work - s.shell.count(15) - 16 - 9 - 8;
        for (int i = 0; i < rest; i++) {
            text.append('a');
        }
        s.run(": " + text);
        Session.due("worked", s.shell.count(15), work);
        return s;
    }

    private static void spentInTheMiddle() {
        Session s = worked(127999);
        Session.due("not spent", s.shell.count(16), 0);
        Session.due("looked at ahead of each word", s.run("echo a; echo b"), "?130 end 2");
        Session.due("work", s.shell.count(15), 127999 + 16);
        Session.due("spent", s.shell.count(16), 1);
        s = worked(128000 - 16 - 12 - 11 - 2);
        Session.due("two bytes are written", s.run("echo abc"), "ab?0");
        Session.due("work", s.shell.count(15), 128000);
        Session.due("it is spent", s.shell.count(16), 1);
        Session.due("spent", s.run(":"), "?130 end 2");
        s = worked(128000 - 16 - 11 - 9 - 3);
        s.put(1, "/f", "abcdef");
        Session.due("nothing is written", s.run("cat f"), "?0");
        Session.due("work", s.shell.count(15), 128000);
        s = worked(128000 - 16 - 12 - 9 - 2);
        s.input("abcdef\n");
        Session.due("two bytes are read", s.run("read x"), "?1");
        Session.due("the others are not", s.shell.count(4), 5);
        Session.due("value", s.ask(0, "x"), "ab");
        s = worked(128000 - 16 - 9);
        Session.due("to its end", s.run(":"), "?0");
        Session.due("an empty script", s.run(""), "?130 end 2");
        s = worked(128000 - 16 - 9);
        Session.due("ahead of a compound", s.run(": ; f() { :; }"), "?130 end 2");
        Session.due("functions", s.shell.count(7), 0);
        s = worked(128000 - 16 - 9 - 9);
        Session.due("a part of a pattern", s.run(": *; echo a"), "?130 end 2");
        Session.due("work", s.shell.count(15), 128000);
        s = worked(128000 - 16);
        Session.due("a value", s.run("x=1; echo a"), "?130 end 2");
        Session.due("variable", s.ask(0, "x"), null);
    }

    private static void sources() {
        source("", "", 16);
        source("", ": a", 16 + 3);
        source("", ": a\n", 16 + 4);
        source("", ": \\\na", 16 + 5);
        source("", "eval; eval ': b'", 16 + 16 + 16 + 16 + 3);
        source("", "echo `:`", 16 + 8 + 16 + 1);
        source("", "for i in 1 2 3; do `:`; done; f() { `:`; }", 16 + 42 + 34);
        source("", "eval 'f() { `:`; }'; f; f", 16 + 25 + 16 + 12 + 17);
        source("", "eval '('; :", 16 + 11 + 17);
        source("", "echo $(: `:`) $(:)", 16 + 18 + 17);
        source("echo : > f", ". ./f; . /dev/null", 16 + 18 + 18 + 16);
        source("", "cat <<E\n`:`\n'`:`'\nE\ncat <<'E'\n`:`\nE", 16 + 35 + 17 + 17);
        source("alias a='b '", "a a", 16 + 3 + 36);
        source("alias a='b '", "eval 'a c'", 16 + 10 + 16 + 3 + 18);
    }

    public static void main(String[] args) {
        commands();
        words();
        paths();
        bytes();
        spentInTheMiddle();
        sources();
        Session.end();
    }
}
