/**
 * The document's boundary cases in the order of its words, third part: REDIRECTIONS, OTHERS, FILES (promise 5). Above
 * each method stands what it tries: at the bound, one below it, one beyond it, empty and full.
 */
public final class CommandBoundsTest {
    private static final String D18 = "999999999999999999";
    private static final String D19 = "1000000000000000000";

    private static void due(String what, Object got, Object want) {
        Session.due(what, got, want);
    }

    private static void runs(String text, String want) {
        Session.runs(text, want);
    }

    private static String times(String text, int n) {
        return text.repeat(n);
    }

    // "REDIRECTIONS of 0, 1, 2 (others: status 1)"; "a number that is open, or - to close"
    private static void redirections() {
        for (int n = 0; n <= 9; n++) {
            String status = n <= 2 ? "0" : "1";
            for (String redirection : new String[] {"> f", ">> f", "< e", ">& 1", ">& 0", "<& 2", ">&-", "<&-", "<<E\nE"}) {
                runs("> e; : " + n + redirection + "\necho $?", status + "\n?0");
                runs("> e; { :; } " + n + redirection + "\necho $?", status + "\n?0");
                runs("> e; x=1 " + n + redirection + "\necho $?$x", status + (n <= 2 ? "1" : "") + "\n?0");
                runs("> e; shift " + n + redirection + "\necho $?", n <= 2 ? "?2" : "1\n?0");
            }
            runs("{ :; } " + n + "> f; ls", n <= 2 ? "f\n?0" : "?0");
            runs(": >&" + n + "; echo $?; : <& " + n + "; echo $?", status + "\n" + status + "\n?0");
            if (n <= 2) {
                runs("{ : >&" + n + "; s=$?; : <&" + n + "; } " + n + ">&-; echo $s$?", "11\n?0");
            }
        }
        for (String none : new String[] {"''", "10", "-1", "--", "1-", "a", "' 1'", "f", "3", "9", "/dev/null", "$u", "*"}) {
            runs(": >& " + none + "; echo $?; : <&" + none + "; echo $?; ls", "1\n1\n?0");
        }
        runs("{ echo a; cat; echo $?; } >&-; echo b <&-; cat <&-; echo $?; read x <&-; echo $?; { read x <&1; } > f; echo $?; { echo x >&0; } < f; echo $?; wc -c f", "b\n0\n1\n1\n0\n0\n?0");
        runs("> f; > f; echo $?; echo a >> f; echo b >> f; cat f; > f; cat f; echo c >> g; cat g; cat < h; echo $?; ls", "0\na\nb\nc\n1\nf\ng\n?0");
        // "by what it has then; of one that was removed reads end, writes are lost"
        runs("{ echo a; rm f; echo b; } > f; ls; { cat; } < f; echo $?", "1\n?0");
        runs("echo abc > f; { read x; cat; echo de >> f; cat; > f; cat; echo fghij > f; cat; rm f; cat; echo k > f; cat; } < f; cat f", "de\nk\n?0");
    }

    // "a file is read from its beginning on, by what it has then"
    private static void reading() {
        runs("echo 123456789 > f; { read x; echo 12 > f; cat; echo 1234567890 > f; cat; } < f", "\n?0");
        runs("{ cat; echo no; } < f", "?1");
        runs("> f; { cat; echo $?; echo a > f; cat; cat; echo b >> f; cat; } < f", "0\na\nb\n?0");
        runs("echo a > f; { rm f; echo b > f; cat; echo $?; } < f; cat f", "0\nb\n?0");
        runs("echo a > f; { echo b > g; mv g f; cat; } < f; cat f; { mv f g; cat; } < f; ls", "b\nb\ng\n?0");
        runs("{ echo a; cat g; echo b; } > f; cat f; { echo a > f; echo b; } > f; cat f; { echo c; } >> f; cat f", "a\nb\na\nb\na\nb\nc\n?0");
    }

    // "Numbers are perhaps - and 1 .. 18 digits"
    private static void numbers() {
        for (String n : new String[] {"0", "1", "-1", "007", "-0", D18, "-" + D18, "000000000000000000"}) {
            long value = Long.parseLong(n);
            runs("printf %d " + n, value + "?0");
            runs("test " + n + " -eq " + value + "; echo $?; seq " + n + " " + n, "0\n" + value + "\n?0");
            runs("printf 'a\\nb\\n' | head -n " + n + "; echo $?", (value < 0 ? "2" : (value == 0 ? "" : value == 1 ? "a\n" : "a\nb\n") + "0") + "\n?0");
            runs("printf 'a\\nb\\n' | tail -n " + n + "; echo $?", (value < 0 ? "2" : (value == 0 ? "" : value == 1 ? "b\n" : "a\nb\n") + "0") + "\n?0");
            runs("echo a:b | cut -d : -f " + n + "; echo $?", (value < 1 ? "2" : (value == 1 ? "a\n" : "\n") + "0") + "\n?0");
        }
        for (String n : new String[] {"''", "-", "--1", "+1", "1a", "a", "' 1'", "'1 '", "0x1", "1.0", D19, "-" + D19, "0000000000000000000"}) {
            for (String command : new String[] {"printf %d %", "printf 'a%d' %", "test % -eq 0", "test 0 -lt %", "[ % -ge 1 ]", "seq % 1", "seq 1 %", "head -n %", "tail -n %", "cut -d : -f %"}) {
                runs(command.replaceAll("%$|% |(?<=[ (])%(?= )", n.replace("$", "\\$") + " ").trim() + " < /dev/null", "?2");
            }
        }
    }

    // echo "(-n, once)"; printf: empty, full, "wrongly told, nothing is written"
    private static void writing() {
        runs("echo; echo ''; echo '' ''; echo -n; echo -n -n; echo; echo -n ''; echo -nn; echo - -n; echo a; echo \"-n\" b", "\n\n \n-n\n-nn\n- -n\na\nb?0");
        runs("printf ''; echo $?; printf '' a b; echo $?; printf a; printf '%s' ; printf '%s|' ''; printf '%s|' a ''; printf '%d|'; printf '%c|'; printf '%c|' ''; printf '%c|' ab; printf '%%'; printf '\\\\'", "0\n0\na|a||0|||a|%\\?0");
        runs("printf '%s-%s|' a b c; printf '%s-%d|' a; printf 'x' a b; printf '%s' $(seq 1 3); printf '\\n\\t.\\q\\'; printf '\\%s' a", "a-b|c-|a-0|x123\n\t.\\q\\\\a?0");
        for (String wrong : new String[] {"", "%", "a%", "%x", "%%%", "%5s", "'% s'", "%D", "%i", "a%d b", "'%s%d' a b", "'%s%d' a 1 b c", "'abc%s%d' 1 2 3 x", "%d 1 2 x"}) {
            runs("printf " + wrong, "?2");
        }
    }

    // "by the number of words": 0 .. 5
    private static void tests() {
        String[][] rows = {{"", "1"}, {"''", "1"}, {"a", "0"}, {"!", "0"}, {"-n", "0"}, {"-z", "0"}, {"=", "0"}, {"! ''", "0"}, {"! a", "1"}, {"! !", "1"}, {"-n ''", "1"}, {"-n a", "0"}, {"-z ''", "0"}, {"-z a", "1"}, {"-e ''", "1"}, {"-e .", "0"}, {"-f .", "1"}, {"-d .", "0"}, {"-d ..", "0"}, {"-x .", "2"}, {"a b", "2"},
            {"a = a", "0"}, {"'' = ''", "0"}, {"'' != a", "0"}, {"a = ''", "1"}, {"! = !", "0"}, {"! = a", "1"}, {"! ! a", "0"}, {"! -n a", "1"}, {"! a b", "2"}, {"a b c", "2"}, {"= = =", "0"}, {"1 -eq 1", "0"}, {"1 -eq a", "2"}, {"! a = a", "1"}, {"! a = b", "0"}, {"! ! ! a", "1"}, {"! ! a b", "2"}, {"a = b c", "2"}, {"! a b c", "2"}, {"! a = a b", "2"}, {"a b c d e", "2"}, {"! ! ! ! a", "2"}};
        for (String[] row : rows) {
            runs("test " + row[0], "?" + row[1]);
            runs("[ " + row[0] + " ]", "?" + row[1]);
            runs("[ " + row[0], "?2");
        }
        runs("[; echo $?; [ ]; echo $?; [ ] ]; echo $?; [ a ] ]; echo $?; [ a]; echo $?", "2\n1\n0\n2\n2\n?0");
        long[] numbers = {-1, 0, 1};
        String[] how = {"-eq", "-ne", "-lt", "-le", "-gt", "-ge"};
        for (long a : numbers) {
            for (long b : numbers) {
                boolean[] holds = {a == b, a != b, a < b, a <= b, a > b, a >= b};
                for (int i = 0; i < 6; i++) {
                    runs("test " + a + " " + how[i] + " " + b, holds[i] ? "?0" : "?1");
                }
            }
        }
    }

    private static void read(String input, String command, String want) {
        Session s = new Session();
        s.input(input);
        due(command + " from " + input, s.run(command), want);
    }

    // read: "1 at the end (a \ there goes)"; no line, an empty one, fewer and more parts than names
    private static void reads() {
        String show = "; echo $? \"<$x><$y>\"";
        String[][] rows = {{"", "1 <><>"}, {"\n", "0 <><>"}, {"a", "1 <a><>"}, {"a\n", "0 <a><>"}, {"a b", "1 <a><b>"}, {"a b\n", "0 <a><b>"}, {"a b c\n", "0 <a><b c>"}, {" \n", "0 <><>"}, {"  a  b  c  \n", "0 <a><b  c>"}, {"\\", "1 <><>"}, {"\\\n", "1 <><>"}, {"\\\n\n", "0 <><>"}, {"a\\", "1 <a><>"}, {"a\\\nb\n", "0 <ab><>"}, {"a\\ b\n", "0 <a b><>"}, {"a \\ \n", "0 <a>< >"},
            {"a b\\ \n", "0 <a><b >"}, {"a b\\  \n", "0 <a><b >"}, {"\\\\\n", "0 <\\><>"}, {"\\a\n", "0 <a><>"}, {"a\\", "1 <a><>"}, {"a b\\", "1 <a><b>"}};
        for (String[] row : rows) {
            read(row[0], "x=q y=q; read x y" + show, row[1] + "\n?0");
        }
        String[][] raw = {{"\\", "1 <\\><>"}, {"\\\n", "0 <\\><>"}, {"a\\ b\n", "0 <a\\><b>"}, {"a\\", "1 <a\\><>"}};
        for (String[] row : raw) {
            read(row[0], "read -r x y" + show, row[1] + "\n?0");
            read(row[0], "read -r -r x y" + show, row[1] + "\n?0");
        }
        read("a b\nc\n", "read; echo $?; read -r; echo $?; read 1 x; echo $?; read x ''; echo $?; read -x x; echo $?; read x; echo $x; read x; read y; echo $x $?", "2\n2\n2\n2\n2\na b\nc 1\n?0");
        String[][] colons = {{"a:b\n", "0 <a><b>"}, {"a:b:c\n", "0 <a><b:c>"}, {":\n", "0 <><>"}, {"::\n", "0 <><:>"}, {"a\n", "0 <a><>"}, {" a : b \n", "0 < a >< b >"}};
        for (String[] row : colons) {
            read(row[0], "IFS=:; read x y" + show, row[1] + "\n?0");
        }
        read(" a b \n", "IFS=; read x y" + show, "0 < a b ><>\n?0");
    }

    // cd, pwd, alias, unalias: none, one, more
    private static void small() {
        runs("cd; echo $?; cd ''; echo $?; cd /; echo $?; cd / /; echo $?; cd nope; echo $?; > f; cd f; echo $?; cd f/; echo $?; cd .; cd ..; pwd; mkdir d; cd d/.././d/; pwd; pwd d; echo $?", "1\n1\n0\n2\n1\n1\n1\n/\n/d\n2\n?0");
        runs("alias; echo $?; alias n; echo $?; alias n=v; echo $?; alias n; echo $?; alias n m; echo $?; alias m n; echo $?; alias m=v 1=v l=v; echo $?; alias l m n; echo $?; unalias; echo $?; unalias n; echo $?; unalias n m l; echo $?; alias m; echo $?; unalias ''; echo $?", "0\n1\n0\n0\n1\n1\n1\n0\n2\n0\n1\n1\n1\n?0");
        runs("true a b; echo $?; false a; echo $?; true -x; echo $?", "0\n1\n0\n?0");
    }

    // cat .. grep: no bytes, no newline at the end, files that aren't there; "each line that it makes has its newline"
    private static void texts() {
        String[] commands = {"cat", "head", "tail", "sort", "uniq", "uniq -c", "tr a b", "tr -d a", "cut -d : -f 1", "grep a", "grep -v b", "wc -l", "wc -w", "wc -c", "grep -c a", "head -n 1", "tail -n 1", "sort -u"};
        String[] nothing = {"", "", "", "", "", "", "", "", "", "", "", "0\n", "0\n", "0\n", "0\n", "", "", ""};
        String[] one = {"a", "a\n", "a\n", "a\n", "a\n", "1 a\n", "b", "", "a\n", "a\n", "a\n", "0\n", "1\n", "1\n", "1\n", "a\n", "a\n", "a\n"};
        String[] line = {"a\n", "a\n", "a\n", "a\n", "a\n", "1 a\n", "b\n", "\n", "a\n", "a\n", "a\n", "1\n", "1\n", "2\n", "1\n", "a\n", "a\n", "a\n"};
        for (int i = 0; i < commands.length; i++) {
            boolean grep = commands[i].startsWith("grep");
            runs(commands[i] + " < /dev/null", nothing[i] + (grep ? "?1" : "?0"));
            runs("> f; " + commands[i] + " < f", nothing[i] + (grep ? "?1" : "?0"));
            runs("printf a | " + commands[i], one[i] + "?0");
            runs("echo a | " + commands[i], line[i] + "?0");
            if (!commands[i].startsWith("uniq") && !commands[i].startsWith("tr")) {
                runs("printf a > f; " + commands[i] + " f", one[i] + "?0");
                runs("printf a > f; " + commands[i] + " g f h", one[i] + "?1");
                runs("mkdir d; " + commands[i] + " d; " + commands[i] + " d/f", nothing[i] + nothing[i] + "?1");
                runs("printf a > f; " + commands[i] + " /dev/null f /dev/null", one[i] + "?0");
            }
        }
        runs("printf 'a\\nb' > f; printf 'c\\n' > g; head -n 2 f g; tail -n 1 f g; sort -r f g; wc -l f g; grep -c c f g; grep b f g; cut -d b -f 2 f g", "a\nbc\nbc\nbc\na\n2\n1\nbc\na\nc\n?0");
        runs("seq 1 9 | head | tail -n 1; seq 1 10 | head | tail -n 1; seq 1 11 | head | tail -n 1; seq 1 9 | tail | head -n 1; seq 1 10 | tail | head -n 1; seq 1 11 | tail | head -n 1", "9\n10\n10\n1\n1\n2\n?0");
        runs("seq 1 3 > f; for n in 0 1 2 3 4; do head -n $n f | wc -l; tail -n $n f | wc -l; done", "0\n0\n1\n1\n2\n2\n3\n3\n3\n3\n?0");
        for (String wrong : new String[] {"wc", "wc f", "wc -lw f", "wc -x", "head -n", "tail -n", "uniq f", "uniq -d", "uniq -c f", "tr", "tr a", "tr a b c", "tr -d", "tr -d a b", "tr a ''", "cut", "cut -d :", "cut -f 1", "cut -d : -f", "cut -d '' -f 1", "cut -d ab -f 1", "cut -f 1 -d :", "grep", "grep -v", "grep -c -v", "seq", "seq 1", "seq 1 2 3", "ls a b", "mkdir", "rm", "touch", "cp", "cp f", "cp f f f", "mv", "mv f", "mv f f f", "cd / /", "unalias", "read"}) {
            Session s = new Session();
            s.put(1, "/f", "a\n");
            s.input("a\n");
            due(wrong, s.run(wrong), "?2");
            due(wrong + " reads nothing", s.shell.count(4), 2);
        }
        runs("echo -x > -x; cat -x; sort -x; head -x; grep -x -x; echo $?; rm -x; ls -l; echo $?; mkdir -p; ls", "-x\n-x\n-x\n-x\n0\n1\n-p\n?0");
    }

    // uniq, sort -n, tr, cut, grep, seq: the edges of each
    private static void lines() {
        runs("printf 'a\\na\\n\\n\\nb\\na\\n' | uniq -c; printf 'a\\n\\na' | uniq | wc -l; printf '\\n' | uniq -c", "2 a\n2 \n1 b\n1 a\n3\n1 \n?0");
        runs("printf '" + D18 + "0\\n" + D18 + "\\n1\\n-1\\n-" + D18 + "\\n\\n-\\nx\\n \\t2\\n0\\n00\\n-0\\n+3\\n' | sort -n", "-" + D18 + "\n-1\n\n+3\n-\n-0\n0\n00\nx\n1\n \t2\n" + D18 + "\n" + D18 + "0\n?0");
        runs("printf 'b\\na\\nb\\n' | sort -u -r -n; printf '1 a\\n1 b\\n01\\n1 a\\n' | sort -n -u; printf '' | sort -r -n -u", "b\na\n01\n1 a\n1 b\n?0");
        runs("echo abc | tr a-c x; echo abc | tr abc xy; echo abc | tr a xyz; echo a-c | tr c-a 123; echo abc | tr a-a x; echo a | tr '' b; echo abca | tr aba 123; echo abc | tr -d a-c; echo abc | tr -d ''; echo ab- | tr a- 12; echo -ab | tr -a 12", "xxx\nxyy\nxbc\n321\nxbc\na\n12c1\n\nabc\n1b2\n12b\n?0");
        runs("printf 'a:b:c\\n:\\nx\\n\\na:\\n' > f; cut -d : -f 1 f; echo; cut -d : -f 2 f; echo; cut -d : -f 3 f; echo; cut -d : -f 4 f", "a\n\nx\n\na\n\nb\n\nx\n\n\n\nc\n\nx\n\n\n\n\n\nx\n\n\n?0");
        runs("printf 'a\\n\\nab\\n' > f; grep '' f; grep -c '' f; grep -v '' f; echo $?; grep -c -v '' f; echo $?; grep abc f; echo $?; grep ab f; grep -v a f; grep -c b f g; echo $?", "a\n\nab\n3\n1\n0\n1\n1\nab\n\n1\n1\n?0");
        runs("seq 1 10001; echo $?; seq 0 10000; echo $?; seq -" + D18 + " " + D18 + "; echo $?; seq 1 0; echo $?; seq " + D18 + " -" + D18 + "; echo $?; seq 5 5; seq -1 1", "2\n2\n2\n0\n0\n5\n-1\n0\n1\n?0");
        runs("seq 1 10000 > /dev/null; echo $?; seq -5000 4999 > /dev/null; echo $?; seq -5000 5000; echo $?", "0\n0\n2\n?0");
        Session s = new Session();
        s.read("seq 1 10000");
        s.shell.run(1);
        due("10000 numbers", s.shell.count(2), 48894);
        due("the last one", s.bytes(1, 48894).endsWith("\n9999\n10000\n"), true);
    }

    // FILES: "Names of 1 .. 60 bytes, any but / "
    private static void names() {
        for (int n : new int[] {1, 2, 59, 60, 61, 62, 120}) {
            String name = times("n", n);
            String status = n <= 60 ? "0" : "1";
            for (String command : new String[] {"mkdir %", ": > %", ": >> %", "touch %", "cp f %", "mv f %", "cp f d/%", "mv f d/../%", "mkdir d/./%"}) {
                runs("> f; mkdir d; " + command.replace("%", name) + "; echo $?", status + "\n?0");
            }
            Session s = new Session();
            due("a file of " + n, s.put(1, "/" + name, "x"), n <= 60);
            due("a directory of " + n, s.put(3, "/d" + name.substring(1), ""), n <= 60);
            due("files", s.shell.count(10), n <= 60 ? 1 : 0);
            due("directories", s.shell.count(11), n <= 60 ? 2 : 1);
        }
        for (String none : new String[] {"''", ".", "..", "/", "./", "../", "/.", "/..", "f/", "d/", "n/", "n/.", "n/..", "n/f", "f/g", "f/.", "f/..", "d/.", "d/.."}) {
            runs("> f; mkdir d; mkdir " + none + "; echo $?; : > " + none + "; echo $?; ls", "1\n1\nd\nf\n?0");
        }
        Session s = new Session();
        due("no bytes", s.put(1, "", "x"), false);
        due("no name", s.put(1, "/", "x"), false);
        due("no /", s.put(1, "f", "x"), false);
        due("every byte", s.put(1, "/ \t\n*?[!~'\"\\$`", "x"), true);
        due("a space", s.put(3, "/ ", ""), true);
        due("files", s.shell.count(10), 1);
        due("its names", s.ask(4, "/"), " \n \t\n*?[!~'\"\\$`\n");
        runs("for i in a; do mkdir '*' ' ' '-' '...' '.a'; done; ls; cd ...; pwd", " \n*\n-\n...\n.a\n/...\n?0");
    }

    // "at most 300 files and directories ( / is one)": "a file is not made"
    private static void manyFiles() {
        String letters = "a b c d e f g h i j k l m n o p q";
        String made = "for i in " + letters + "; do for j in " + letters + "; do > $i$j; done; done; mkdir z; ";
        for (int room = 0; room <= 3; room++) {
            String ready = made + "touch z/1 z/2 z/3 z/4 z/5 z/6 z/7 z/8 z/9".substring(0, 5 + 4 * (9 - room)) + "; ";
            String due = "0\n0\n0\n".substring(0, 2 * Math.min(3, room)) + "1\n1\n1\n".substring(0, 6 - 2 * Math.min(3, room));
            for (String command : new String[] {"mkdir %", ": > %", ": >> %", "touch %", "cp aa %"}) {
                Session s = new Session();
                due(command + ", room for " + room, s.run(ready + command.replace("%", "v") + "; echo $?; " + command.replace("%", "z/w") + "; echo $?; " + command.replace("%", "x") + "; echo $?"), due + "?0");
                due("in all", s.shell.count(10) + s.shell.count(11), 300);
                due("full: what is there may be used", s.run("mv aa v2; echo $?; cp ab ac; echo $?; > ad; echo $?; touch ae; echo $?; rm ae; > y; echo $?; > y2; echo $?"), "0\n0\n0\n0\n0\n1\n?0");
                due("in all", s.shell.count(10) + s.shell.count(11), 300);
                due("full: a file", s.put(1, "/w", ""), false);
                due("full: a directory", s.put(3, "/w", ""), false);
                due("full: a file that is there", s.put(1, "/y", "x"), true);
                s.shell.reset();
                due("empty", s.shell.count(10) + s.shell.count(11), 1);
                due("room again", s.put(1, "/w", ""), true);
            }
        }
    }

    private static Session filled(String behind) {
        Session s = new Session();
        // seq 1 3499 writes 16388 bytes, seq 1 3498 writes 16383.
        due("full", s.run("for i in 1 2 3; do seq 1 3499 > f$i; done; seq 1 3498 > f4; " + behind), "?0");
        return s;
    }

    // "files of 16384 bytes at most, 65536 together: beyond that bytes are lost (what fits is written)"
    private static void bytes() {
        runs("seq 1 3498 > f; wc -c f; printf a >> f; wc -c f; tail -n 1 f; printf b >> f; wc -c f; tail -n 1 f", "16383\n16384\na\n16384\na\n?0");
        runs("seq 1 3498 > f; printf abc >> f; wc -c f; tail -n 1 f; cp f g; wc -c g; echo $?; > f; printf d > f; cat f", "16384\na\n16384\n0\nd?0");
        runs("seq 1 3498 > f; { printf a; printf b; printf c >&2; } >> f 2> g; tail -n 1 f; cat g", "a\nc?0");
        Session s = filled("");
        due("bytes", s.shell.count(12), 65535);
        due("too many", s.put(1, "/g", "ab"), false);
        due("none", s.ask(1, "/g"), null);
        due("files", s.shell.count(10), 4);
        due("no bytes", s.put(1, "/g", ""), true);
        due("too many anew", s.put(1, "/g", "ab"), false);
        due("as it was", s.ask(1, "/g"), "");
        due("just so many", s.put(1, "/g", "a"), true);
        due("full", s.shell.count(12), 65536);
        due("no room", s.put(1, "/h", "b"), false);
        due("anew", s.put(1, "/g", "b"), true);
        due("not anew", s.put(1, "/g", "bc"), false);
        due("as it was", s.ask(1, "/g"), "b");
        due("in place of many", s.put(1, "/f4", "bc"), true);
        due("bytes", s.shell.count(12), 65536 - 16383 + 2);
        due("what fits is written", filled("printf abc > g").ask(1, "/g"), "a");
        due("what fits is written", filled("printf ab > g; printf c > h; printf d >> g").ask(1, "/g"), "a");
        due("what doesn't fit is lost, the file is made", filled("printf ab > g; printf c > h").ask(1, "/h"), "");
        due("by cp", filled("printf x > g; rm g; echo abc | cat > /dev/null; > f1; printf abc > f1; cp f1 f2").shell.count(12), 65535 - 2 * 16384 + 6);
        due("room behind rm", filled("rm f1; printf abc > g").ask(1, "/g"), "abc");
        due("room behind > ", filled("> f1; printf abc > g").ask(1, "/g"), "abc");
        due("room behind mv", filled("printf a > g; mv g f1; printf bcd > h").ask(1, "/h"), "bcd");
        Session t = filled("printf abcde > g; printf f >> f4; printf g >> f4");
        due("a file that is nearly full", t.shell.count(12), 65536);
        due("no room left for it", t.ask(1, "/f4").length(), 16383);
    }

    // "a path that ends with / leads to a directory that is there alone"; "/dev/null is empty, and takes all"
    private static void paths() {
        for (String path : new String[] {"d/", "d//", "./d/", "/d/", "d/.", "d/./", "d/e/..", "d/e/../", "//d", "../d", "d/../d"}) {
            runs("mkdir d d/e; test -d " + path + "; echo $?; test -f " + path + "; echo $?; ls " + path + "; cd " + path + "; pwd; cat < " + path, "0\n1\ne\n/d\n?1");
        }
        for (String path : new String[] {"f/", "f//", "f/.", "f/..", "f/f", "d/f/", "n/", "n/.", "d/n/..", "''", "d/e/f"}) {
            runs("> f; mkdir d; > d/f; for t in -e -f -d; do test $t " + path + "; echo $?; done; cat " + path + "; cat < " + path + "; echo $?; echo a > " + path + "; echo $?; mkdir " + path + "; echo $?; rm " + path + "; echo $?; ls", "1\n1\n1\n1\n1\n1\n1\nd\nf\n?0");
        }
        runs("cat /dev/null; echo $?; cat < /dev/null; echo a > /dev/null; echo b >> /dev/null; echo $?; wc -c /dev/null; { echo c; } > /dev/null; . /dev/null; echo $?; cp /dev/null f; echo $?; wc -c f", "0\n0\n0\n0\n0\n0\n?0");
        runs("ls /dev/null; echo $?; test -e /dev/null; echo $?; rm /dev/null; echo $?; mv /dev/null f; echo $?; > f; cp f /dev/null; echo $?; mv f /dev/null; echo $?; touch /dev/null; echo $?; mkdir /dev/null; echo $?; cd /dev; echo $?; echo a > /dev/nul; echo $?; ls", "1\n1\n1\n1\n1\n1\n1\n1\n1\n1\nf\n?0");
    }

    public static void main(String[] args) {
        redirections();
        reading();
        numbers();
        writing();
        tests();
        reads();
        small();
        texts();
        lines();
        names();
        manyFiles();
        bytes();
        paths();
        Session.end();
    }
}
