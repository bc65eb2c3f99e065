/** The calls of the face: what they answer, what they throw, and what stays as it is then. */
public final class FaceTest {
    private static void due(String what, Object got, Object want) {
        Session.due(what, got, want);
    }

    /** 0 nothing thrown, 1 IllegalArgumentException, 2 IllegalStateException. */
    private static int thrown(Session s, String call, int a, int b, int c) {
        try {
            switch (call) {
                case "read":
                    s.shell.read(a);
                    break;
                case "input":
                    s.shell.input(a);
                    break;
                case "put":
                    s.shell.put(a, b, c);
                    break;
                case "ask":
                    s.shell.ask(a, b);
                    break;
                case "run":
                    s.shell.run(a);
                    break;
                default:
                    s.shell.print();
            }
        } catch (IllegalArgumentException e) {
            return 1;
        } catch (IllegalStateException e) {
            return 2;
        }
        return 0;
    }

    private static String counts(Session s) {
        StringBuilder all = new StringBuilder();
        for (int i = 0; i <= 19; i++) {
            all.append(s.shell.count(i)).append(' ');
        }
        return all.toString();
    }

    private static void newObject() {
        Session s = new Session();
        due("new", counts(s), "0 0 0 0 0 0 0 0 0 0 0 1 0 0 0 0 0 -1 -1 -1 ");
        due("count(-1)", s.shell.count(-1), -1);
        due("NONE", TextShell.NONE, -1);
        due("print", thrown(s, "print", 0, 0, 0), 2);
        due("run", thrown(s, "run", 0, 0, 0), 2);
        due("run -1 without a script", thrown(s, "run", -1, 0, 0), 2);
        due("byteAt", s.shell.byteAt(0, 0) + s.shell.byteAt(1, 0) + s.shell.byteAt(2, 0) + s.shell.byteAt(3, 0), -4);
        due("pwd", s.run("pwd; ls; echo $?$#$-"), "/\n00\n?0");
    }

    private static void feeds() {
        Session s = new Session();
        for (int i = 1; i <= 819; i++) {
            due("feed", s.shell.feed(0x41424344, 0, 0, 0, -1), 20 * i);
        }
        due("feed beyond", s.shell.feed(0, 0, 0, 0, 0), -1);
        due("tape", s.shell.count(0), 16380);
        due("bytes that are none of a text", thrown(s, "read", 5, 0, 0), 1);
        due("tape then", s.shell.count(0), 16380);
        s.shell.ask(0, 4);
        due("tape is empty", s.shell.count(0), 0);
        Session t = new Session();
        t.shell.feed(0x6563686f, 0x20616263, 0x64656667, 0x68696a6b, 0x6c6d6e7e);
        due("twenty", t.shell.read(20), 0);
        t.shell.run(9);
        due("twenty run", t.bytes(1, t.shell.count(2)), "abcdefghijklmn~\n");
    }

    private static void reads() {
        Session s = new Session();
        due("read without bytes", thrown(s, "read", 1, 0, 0), 1);
        due("read -1", thrown(s, "read", -1, 0, 0), 1);
        due("read nothing", s.read(""), 0);
        due("print nothing", s.print(), "");
        due("commands of nothing", s.shell.count(17), 0);
        due("source of nothing", s.shell.count(14), 16);
        due("run nothing", s.shell.run(0), 0);
        s.tape("echo ab");
        due("read more", thrown(s, "read", 21, 0, 0), 1);
        due("the script stays", s.shell.count(17), 0);
        due("a part", s.shell.read(6), 0);
        due("the tape is empty", s.shell.count(0), 0);
        due("print", s.print(), "echo a\n");
        due("length", s.shell.count(18), 7);
        for (int bad : new int[] {0, 8, 11, 31, 127, 128, 255}) {
            s.tape("a" + (char) bad);
            due("byte " + bad, thrown(s, "read", 2, 0, 0), 1);
            due("print is still there", s.shell.count(18), 7);
            s.shell.ask(0, 1);
        }
        due("tab", s.run("echo\ta~ b"), "a~ b\n?0");
        due("a fault", s.read("(\n"), 2 + 8 * 2);
        due("no script", thrown(s, "print", 0, 0, 0), 2);
        due("no commands", s.shell.count(17), -1);
        due("no print", s.shell.count(18), -1);
        due("no byte of a print", s.shell.byteAt(0, 0), -1);
        due("no run", thrown(s, "run", 5, 0, 0), 2);
    }

    private static void prints() {
        Session s = new Session();
        s.read("a;b");
        due("ahead of print", s.shell.count(18), -1);
        due("print", s.shell.print(), 4);
        due("bytes", s.bytes(0, 4), "a\nb\n");
        due("behind", s.shell.byteAt(0, 4), -1);
        due("ahead", s.shell.byteAt(0, -1), -1);
        s.shell.run(10);
        due("stays behind run", s.shell.count(18), 4);
        s.read("a");
        due("behind read", s.shell.count(18), -1);
        due("byte behind read", s.shell.byteAt(0, 0), -1);
    }

    private static void runs() {
        Session s = new Session();
        s.read("echo a; echo b; x=1");
        due("run -1", thrown(s, "run", -1, 0, 0), 1);
        due("run 100001", thrown(s, "run", 100001, 0, 0), 1);
        due("stopped", s.shell.run(2), 1);
        due("status", s.shell.count(1), 130);
        due("simple", s.shell.count(13), 2);
        due("variables", s.shell.count(5), 0);
        due("to its end", s.shell.run(3), 0);
        due("written behind", s.bytes(1, s.shell.count(2)), "a\nb\na\nb\n");
        due("status", s.shell.count(1), 0);
        due("variables", s.shell.count(5), 1);
        due("100000", s.shell.run(100000), 0);
        due("0", s.shell.run(0), 1);
        due("no simple command", s.shell.count(13), 0);
        Session t = new Session();
        t.read("x=1; (x=2; cd /; y=$(x=3; x=4 echo a; :; :)) > f");
        due("stopped within", t.shell.run(6), 1);
        due("left as by an error", t.ask(0, "x"), "1");
        due("no y", t.ask(0, "y"), null);
        due("status", t.shell.count(1), 130);
        due("then", t.run("echo $?"), "130\n?0");
        t.read("");
        due("an empty list", t.shell.run(0), 0);
        due("its status", t.shell.count(1), 0);
        due("exit", t.run("exit 7; echo no"), "?7");
        due("error", t.run("shift 1; echo no"), "?2");
    }

    private static void inputs() {
        Session s = new Session();
        due("input without bytes", thrown(s, "input", 1, 0, 0), 1);
        due("input -1", thrown(s, "input", -1, 0, 0), 1);
        s.input("one\ntwo\nrest");
        due("tape", s.shell.count(0), 0);
        due("not read", s.shell.count(4), 12);
        due("read", s.run("read x; echo $x"), "one\n?0");
        due("not read", s.shell.count(4), 8);
        due("in a subshell", s.run("(read x; echo $x)"), "two\n?0");
        due("stays read", s.shell.count(4), 4);
        due("cat", s.run("cat"), "rest?0");
        due("all read", s.shell.count(4), 0);
        due("at the end", s.run("cat; read x"), "?1");
        s.input("new\n");
        due("anew", s.run("cat"), "new\n?0");
        s.tape("a\u0001b");
        due("no byte of a text", thrown(s, "input", 3, 0, 0), 1);
        due("tape stays", s.shell.count(0), 20);
        s.shell.input(1);
        due("one byte", s.shell.count(4), 1);
        s.shell.input(0);
        due("none", s.shell.count(4), 0);
    }

    private static void puts() {
        Session s = new Session();
        due("kind 4", thrown(s, "put", 4, 0, 0), 1);
        due("kind -1", thrown(s, "put", -1, 0, 0), 1);
        s.tape("x1");
        due("too many", thrown(s, "put", 0, 1, 20), 1);
        due("overflow", thrown(s, "put", 0, 2, Integer.MAX_VALUE), 1);
        due("-1", thrown(s, "put", 0, 1, -1), 1);
        due("stays", s.shell.count(0), 20);
        due("variable", s.shell.put(0, 1, 1), true);
        due("tape", s.shell.count(0), 0);
        due("value", s.ask(0, "x"), "1");
        due("no name", s.put(0, "1x", "a"), false);
        due("no name", s.put(0, "", "a"), false);
        due("empty value", s.put(0, "_y9", ""), true);
        due("empty value", s.ask(0, "_y9"), "");
        s.run("readonly x");
        due("read-only", s.put(0, "x", "2"), false);
        due("it stays", s.ask(0, "x"), "1");
        s.tape("x\u007f");
        due("no byte of a text", thrown(s, "put", 0, 1, 1), 1);
        s.shell.ask(0, 0);

        due("file", s.put(1, "/f", "a\nb"), true);
        due("bytes", s.ask(1, "/f"), "a\nb");
        due("anew", s.put(1, "/f", "c"), true);
        due("anew", s.ask(1, "/f"), "c");
        due("bytes of all", s.shell.count(12), 1);
        due("relative", s.put(1, "f", "c"), false);
        due("no directory", s.put(1, "/d/f", "c"), false);
        due("to a directory's path", s.put(1, "/f/", "c"), false);
        due("root", s.put(1, "/", ""), false);
        due("directory", s.put(3, "/d", "ignored"), true);
        due("not new", s.put(3, "/d", ""), false);
        due("not new", s.put(3, "/", ""), false);
        due("not new", s.put(3, "/f", ""), false);
        due("a / behind", s.put(3, "/e/", ""), false);
        due("relative", s.put(3, "e", ""), false);
        due("within", s.put(1, "/d/f", "c"), true);
        due("a directory", s.put(1, "/d", "c"), false);
        due("files", s.shell.count(10), 2);
        due("directories", s.shell.count(11), 2);

        due("alias", s.put(2, "a", "b c"), true);
        due("text", s.ask(2, "a"), "b c");
        due("newline", s.put(2, "a", "b\nc"), false);
        due("no name", s.put(2, "a-b", "c"), false);
        due("it stays", s.ask(2, "a"), "b c");
        due("empty", s.put(2, "a", ""), true);
        due("aliases", s.shell.count(8), 1);
    }

    private static void putsWithoutRoom() {
        Session s = new Session();
        s.run("seq 1 3500 > f1; seq 1 3500 > f2; seq 1 3500 > f3; seq 1 3500 > f4");
        due("a file's most", s.ask(1, "/f1").length(), 16384);
        due("full", s.shell.count(12), 65536);
        due("no room", s.put(1, "/g", "a"), false);
        due("not made", s.ask(1, "/g"), null);
        due("empty", s.put(1, "/g", ""), true);
        due("in place of more", s.put(1, "/f1", "abc"), true);
        due("bytes", s.shell.count(12), 65536 - 16384 + 3);
        due("room", s.put(1, "/g", "a"), true);
    }

    private static void asks() {
        Session s = new Session();
        due("kind 5", thrown(s, "ask", 5, 0, 0), 1);
        due("kind -1", thrown(s, "ask", -1, 0, 0), 1);
        due("-1", thrown(s, "ask", 0, -1, 0), 1);
        due("1", thrown(s, "ask", 0, 1, 0), 1);
        due("no variable", s.ask(0, "x"), null);
        s.run("x=12; f() { echo a; cat <<E\nb\nE\n}; alias a='b '; mkdir d d/e; echo q > d/.h; echo > d/z; unset y; g() (:) <<X\nt\nX\n");
        due("variable", s.ask(0, "x"), "12");
        due("byte", s.shell.byteAt(3, 1), (int) '2');
        due("byte behind", s.shell.byteAt(3, 2), -1);
        due("none", s.ask(0, "y"), null);
        due("no answer", s.shell.byteAt(3, 0), -1);
        due("file", s.ask(1, "/d/.h"), "q\n");
        due("file", s.ask(1, "/d/../d/./.h"), "q\n");
        due("relative", s.ask(1, "d/.h"), null);
        due("directory as a file", s.ask(1, "/d"), null);
        due("alias", s.ask(2, "a"), "b ");
        due("alias", s.ask(2, "x"), null);
        due("function", s.ask(3, "f"), "f() {\necho a\ncat << E\nb\nE\n}");
        due("function", s.ask(3, "g"), "g() (\n:\n) << X\nt\nX");
        due("function", s.ask(3, "x"), null);
        due("names", s.ask(4, "/d"), ".h\ne\nz\n");
        due("names", s.ask(4, "/d/"), ".h\ne\nz\n");
        due("names", s.ask(4, "/d/e"), "");
        due("names of a file", s.ask(4, "/d/z"), null);
        due("names", s.ask(4, "/"), "d\n");
        due("stays", s.run("echo a"), "a\n?0");
        due("answer stays", s.shell.byteAt(3, 0), (int) 'd');
        s.tape("a");
        due("throws", thrown(s, "ask", 9, 1, 0), 1);
        due("answer stays", s.shell.byteAt(3, 0), (int) 'd');
        due("tape stays", s.shell.count(0), 20);
        due("byteAt 4", s.shell.byteAt(4, 0), -1);
        due("byteAt -1", s.shell.byteAt(-1, 0), -1);
    }

    private static void clearsAndResets() {
        Session s = new Session();
        s.put(2, "al", "echo");
        s.input("abc");
        s.read("mkdir d; cd d; echo ab; echo c >&2; x=1; readonly y; f() { :; }; set -eu -- p q; echo z > f");
        s.shell.run(100);
        due("counts", counts(s).substring(0, 27), "0 0 3 2 3 2 1 1 1 2 1 2 2 8");
        due("clear", s.shell.clear(), 5);
        due("gone", s.shell.count(2) + s.shell.count(3), 0);
        due("no byte", s.shell.byteAt(1, 0) + s.shell.byteAt(2, 0), -2);
        due("clear", s.shell.clear(), 0);
        int source = s.shell.count(14);
        int work = s.shell.count(15);
        s.print();
        s.ask(0, "x");
        s.run("echo a; false || exit 3");
        source = s.shell.count(14);
        work = s.shell.count(15);
        s.tape("x");
        s.shell.reset();
        due("reset", counts(s), "20 0 0 0 0 0 0 0 0 0 0 1 0 0 " + source + " " + work + " 0 -1 -1 -1 ");
        due("no answer", s.shell.byteAt(3, 0), -1);
        due("no script", thrown(s, "run", 1, 0, 0), 2);
        s.shell.ask(0, 1);
        due("as at first", s.run("echo $-$#; pwd; ls; y=1; f; al"), "0\n/\n?127");
    }

    /** What stands at the very edge of a row. */
    private static void edges() {
        Session s = new Session();
        s.put(0, "IFS", "x");
        due("IFS is a variable", s.shell.count(5), 1);
        s.input("a\nb\n");
        s.run("read x");
        due("what was not read", s.shell.count(4), 2);
        s.shell.reset();
        due("no variable", s.shell.count(5), 0);
        due("no IFS", s.ask(0, "IFS"), null);
        due("no input", s.shell.count(4), 0);
        for (String name : new String[] {"A", "Z", "a", "z", "_", "A0", "Z9", "_a_Z", "aA0z9"}) {
            due(name, s.put(0, name, "v"), true);
            due(name, s.ask(0, name), "v");
            due(name, s.run(name + "=w; echo $" + name + "-${" + name + "}."), "w-w.\n?0");
        }
        for (String name : new String[] {"", "0", "9a", "a-", "a ", "@", "[", "`", "{", "a@", "a[", "a`", "a{", "a/", "a:", " a", "\n"}) {
            due(name, s.put(0, name, "v"), false);
            due(name, s.put(2, name, "v"), false);
        }
        due("a newline ahead", s.put(2, "a", "\nx"), false);
        due("a newline behind", s.put(2, "a", "x\n"), false);
        due("neither", s.put(2, "a", "x"), true);
        for (String bad : new String[] {"\0", "\0a", "a\0", "\u001f", "\u007f", "\u00e9", "\r", "\u000b", "\u0008"}) {
            for (int i = 0; i < 4; i++) {
                s.tape(bad);
                due("bytes that are none", thrown(s, new String[] {"read", "input", "put", "ask"}[i], i == 2 ? 1 : bad.length(), bad.length(), 0) > 0, true);
                s.read("");
            }
        }
    }

    private static void keeps() {
        Session s = new Session();
        s.read("seq 1 10000; echo x >&2");
        s.shell.run(10);
        due("kept", s.shell.count(2), 48894);
        s.shell.run(10);
        due("kept", s.shell.count(2), 65536);
        due("kept of 2", s.shell.count(3), 4);
        due("cleared", s.shell.clear(), 65540);
        due("none", s.shell.count(2), 0);
    }

    private static void counts() {
        Session s = new Session();
        s.read("a; { b; c | d; } > f; f() { g $(h; i); }; for x in a; do j; done; case a in b) k;; esac; ! l && ( m )");
        due("commands", s.shell.count(17), 15);
        s.run("x=1; y=2; readonly z x; unset y; f() { :; }; g() { :; }; unset -f f; alias a=b c=d; unalias a; set 1 2 3");
        due("variables", s.shell.count(5), 2);
        due("read-only", s.shell.count(6), 2);
        due("functions", s.shell.count(7), 1);
        due("aliases", s.shell.count(8), 1);
        due("parameters", s.shell.count(9), 3);
        due("simple", s.shell.count(13), 8);
    }

    public static void main(String[] args) {
        newObject();
        feeds();
        reads();
        prints();
        runs();
        inputs();
        puts();
        putsWithoutRoom();
        asks();
        clearsAndResets();
        edges();
        keeps();
        counts();
        Session.end();
    }
}
