/** Promise 5, the commands that are no special ones. */
public final class ToolsTest {
    private static void runs(String text, String want) {
        Session.runs(text, want);
    }

    private static void small() {
        runs("true; echo $?; false; echo $?", "0\n1\n?0");
        runs("echo; echo a  'b  c'; echo -n a; echo -n -n b; echo -e c; echo a -n; echo -nn; echo '' x; echo -n", "\na b  c\na-n b-e c\na -n\n-nn\n x\n?0");
        runs("mkdir d; cd d; echo $?; cd; echo $?; HOME=/d; cd /; cd; pwd; cd a b; echo $?; cd nope; echo $?; pwd x; echo $?; HOME=/q; cd; echo $?", "0\n1\n/d\n2\n1\n2\n1\n?0");
        runs("mkdir - ; cd -; pwd", "/-\n?0");
    }

    private static void printf() {
        runs("printf 'a\\tb\\\\c\\n%s-%d %c%%\\n' x 12 yz", "a\tb\\c\nx-12 y%\n?0");
        runs("printf '%s,' a b '' c; printf '[%s %d]' p 1 q; printf 'x' a b; printf '%s'; printf '%d%c|'; printf '%%' a b", "a,b,,c,[p 1][q 0]x0|%?0");
        runs("printf '\\a\\0\\\"\\'; printf '%d %d %d %d\\n' 007 -0 -12 999999999999999999", "\\a\\0\\\"\\7 0 -12 999999999999999999\n?0");
        for (String wrong : new String[] {"'a%d' x", "'a%x' 1", "'a%'", "'%5d' 1", "", "'%d' 1234567890123456789", "'%d' ''", "'%d' +1", "'%d' 1-", "'%d' -", "'%s%d' a 1 b c", "'ab%s%i'"}) {
            runs("printf " + wrong, "?2");
        }
        runs("printf -- ; echo; printf '%s\\n' -n; printf \"$(printf 'a\\n')%c%c\" bc ''", "--\n-n\nab?0");
    }

    private static void tests() {
        String[] holds = {"a", "-n", "'-z'", "! ''", "-n a", "-z ''", "-e /", "-d /", "-e f", "-f f", "-d d", "a = a", "a != b", "1 -eq 01", "1 -ne 2", "-3 -lt 2", "2 -le 2", "3 -gt 2", "3 -ge 3",
            "! a = b", "! -n ''", "! = !", "'!' = '!'", "-n = -n", "! ! a", "-0 -eq 0", "'' = ''", "! 1 -eq 2", "999999999999999999 -gt 1", "! -d f", "-f ./d/../f", "-d d/"};
        for (String test : holds) {
            runs("mkdir d; > f; test " + test, "?0");
            runs("mkdir d; > f; [ " + test + " ]", "?0");
        }
        String[] fails = {"", "''", "! a", "-n ''", "-z a", "-e g", "-f d", "-d f", "-e f/", "-f ''", "a = b", "a != a", "1 -eq 2", "1 -ne 1", "2 -lt 2", "3 -le 2", "2 -gt 2", "-3 -ge 3", "! a = a", "! -n a", "! a != b",
            "-e /dev/null", "! ! ''"};
        for (String test : fails) {
            runs("mkdir d; > f; test " + test, "?1");
            runs("mkdir d; > f; [ " + test + " ]", "?1");
        }
        String[] wrong = {"a b", "-x a", "a b c", "a -eq 1", "1 -eq ''", "1 -lt 1234567890123456789", "! a b", "a b c d", "! a b c", "a = b c", "! ! a b", "a b c d e", "! a = b c", "1 -eq 1.0", "-n a b", "a == a", "a -a b"};
        for (String test : wrong) {
            runs("test " + test, "?2");
        }
        runs("[ a; echo $?; [; echo $?; [ a ] b; echo $?; [ ]; echo $?; [ ] ]; echo $?", "2\n2\n2\n1\n0\n?0");
    }

    /** Each comparison between each two numbers. */
    private static void comparisons() {
        String[] told = {"-eq", "-ne", "-lt", "-le", "-gt", "-ge"};
        String[] values = {"-999999999999999999", "-2", "0", "-0", "7", "007", "999999999999999999"};
        for (String how : told) {
            StringBuilder script = new StringBuilder();
            StringBuilder due = new StringBuilder();
            for (String a : values) {
                for (String b : values) {
                    int order = Long.compare(Long.parseLong(a), Long.parseLong(b));
                    boolean holds = how.equals("-eq") && order == 0 || how.equals("-ne") && order != 0 || how.equals("-lt") && order < 0 || how.equals("-le") && order <= 0
                        || how.equals("-gt") && order > 0 || how.equals("-ge") && order >= 0;
                    script.append("[ ").append(a).append(' ').append(how).append(' ').append(b).append(" ];echo $?\n");
                    due.append(holds ? "0\n" : "1\n");
                }
            }
            runs(script.toString(), due + "?0");
        }
        runs("test -9999999999999999999 -lt 0; echo $?; test 1234567890123456789 -gt 0; echo $?; test - -lt 0; echo $?; test -- -lt 0; echo $?; test +1 -gt 0; echo $?; test ' 1' -gt 0; echo $?", "2\n2\n2\n2\n2\n2\n?0");
        runs("printf '%c%c%c.' a bc ''; printf %c; printf '<%s>' a; printf '%d ' 1 -1 007 -0 999999999999999999", "ab.<a>1 -1 7 0 999999999999999999 ?0");
    }

    /** What one command left behind in the rows that all share says nothing to the next one. */
    private static void oneBehindAnother() {
        runs("printf '10\\n9\\n' > f; sort -n f; sort f; sort -r f; sort f; sort -u f; echo; sort -n -r f; sort f", "9\n10\n10\n9\n9\n10\n10\n9\n10\n9\n\n10\n9\n10\n9\n?0");
        runs("seq 1 200 | sort -r -n | head -n 2; seq 1 200 | sort | tail -n 2; seq 1 300 | sort -n | tail -n 1; seq 1 3 | sort -n -r", "200\n199\n98\n99\n300\n3\n2\n1\n?0");
        runs("seq 1 3 | tail; seq 1 12 | tail | head -n 1; seq 1 3 | head; seq 1 12 | head | tail -n 1; seq 1 2 | tail -n 5; seq 1 4 | tail -n 4 | head -n 1", "1\n2\n3\n3\n1\n2\n3\n10\n1\n2\n1\n?0");
        runs("printf 'a\\t\\na\\nab\\n\\n' | sort; printf ' 100000000000000002\\n100000000000000001\\n-1\\n- 5\\n' | sort -n", "\na\na\t\nab\n-1\n- 5\n100000000000000001\n 100000000000000002\n?0");
        runs("printf 'a\\nb\\n' | uniq; printf 'a\\n\\n' | uniq -c; printf '\\n' | uniq -c; printf 'a' | uniq -c; printf '' | uniq -c; seq 1 3 | uniq -c", "a\nb\n1 a\n1 \n1 \n1 a\n1 1\n1 2\n1 3\n?0");
        runs("printf 'a\\n\\n\\n\\n' | sort > /dev/null; printf 'a\\n\\n' | uniq", "a\n\n?0");
        runs("echo ax | tr a x-z; echo ab | tr ab 12; echo ax | tr a z-a; echo ab | tr ab 12; echo axy | tr -d x-z; echo az- | tr -d z-a; echo abz | tr z c", "xx\n12\nzx\n12\na\n\nabc\n?0");
        runs("printf 'a\\nb\\n' > f; grep 'a\nb' f; echo $?; grep -c 'b\n' f; grep '\n' f; echo $?; grep ab f; echo $?; grep -v c f", "1\n0\n1\n1\na\nb\n?0");
        runs("printf 'a:b:\\n:\\n' > f; cut -d : -f 3 f; cut -d : -f 2 f; cut -d : -f 4 f; cut -d : -f 1 f", "\n\nb\n\n\n\na\n\n?0");
    }

    private static void read(String input, String command, String want) {
        Session s = new Session();
        s.input(input);
        Session.due("read from " + input + " by " + command, s.run(command), want);
    }

    private static void reads() {
        read("a b c\nd", "read x y; echo \"$x|$y|$?\"; read z; echo $z$?; read z; echo .$z$?", "a|b c|0\nd1\n.1\n?0");
        read("  a  b  c  \n", "read x y; echo \"[$x][$y]\"", "[a][b  c]\n?0");
        read("  a  b  \n", "read x; echo \"[$x]\"", "[a  b]\n?0");
        read("a\n", "read x y z; echo \"[$x][$y][$z]\"", "[a][][]\n?0");
        read("\n", "y=1; read x y; echo \"$?[$x][$y]\"", "0[][]\n?0");
        read("a\\ b c\n", "read x y; echo \"[$x][$y]\"", "[a b][c]\n?0");
        read("a\\\nb\\\\c\\d \\ \n", "read x; echo \"[$x]\"", "[ab\\cd  ]\n?0");
        read("a\\\nb\\ \n", "read -r x; echo \"[$x]\"; read -r x; echo \"[$x]\"", "[a\\]\n[b\\]\n?0");
        read("a b\\", "read x y; echo \"$?[$x][$y]\"", "1[a][b]\n?0");
        read("a b\\", "read -r x y; echo \"$?[$x][$y]\"", "1[a][b\\]\n?0");
        read("a:b::c: d :\n", "IFS=: read x y z; echo \"[$x][$y][$z].$IFS\"", "[a][b][:c: d :].\n?0");
        read(" a : b :c\n", "IFS=' :'; read x y z; echo \"[$x][$y][$z]\"", "[a][b][c]\n?0");
        read("a:\n:b\n::\n", "IFS=:; read x y; echo \"[$x][$y]\"; read x y; echo \"[$x][$y]\"; read x; echo \"[$x]\"", "[a][]\n[][b]\n[::]\n?0");
        read(" a \n", "IFS= read x; echo \"[$x]\"", "[ a ]\n?0");
        read("a\\:b:c\n", "IFS=:; read x y; echo \"[$x][$y]\"", "[a:b][c]\n?0");
        read("a b\n", "read; echo $?; read 1; echo $?; read x a-b; echo $?; read -r; echo $?; read -x y; echo $?; cat", "2\n2\n2\n2\n2\na b\n?0");
        read("a b\nc d\n", "x=q read x; echo .$x; readonly r; read y r; echo no", ".\n?2");
        read("a\nb\nc\n", "while read x; do echo \"<$x>\"; done; read x; echo $?", "<a>\n<b>\n<c>\n1\n?0");
        read("a b\n", "read x x; echo $x", "b\n?0");
        read("no end\n", "read IFS w; echo \"[$IFS][$w]\"", "[no][end]\n?0");
        read("::a b: c\n", "IFS=:; read x IFS y; echo \"[$x][$IFS][$y]\"", "[][][a b: c]\n?0");
    }

    private static void aliases() {
        runs("alias; echo $?; alias a='b c' d=; echo $?; alias a d; echo $?; alias q; echo $?; alias a q d; echo $?; alias 1=2 e=f; echo $?; alias e; echo $?", "0\n0\n0\n1\n1\n1\n0\n?0");
        runs("alias a='b\nc'; echo $?; alias =x; echo $?; alias a=b=c; eval 'alias a'; echo $?; unalias; echo $?; unalias a; echo $?; unalias a; echo $?; alias x=y; unalias z x; echo $?; alias x; echo $?", "1\n1\n0\n2\n0\n1\n1\n1\n?0");
        runs("alias a=\"$(printf x | tr x '\\t-#' )\"; echo $?; alias \"a=$(printf ab | tr ab '\\n- ')\"; echo $?", "0\n1\n?0");
        runs("alias e='echo '; alias x='a b'; eval 'e x; e \"x\"'; unalias x; eval 'e x'", "a b\nx\nx\n?0");
        Session s = new Session();
        s.run("alias a='echo q ' b='c d'; alias a=\"echo 'x\"");
        Session.due("text", s.ask(2, "a"), "echo 'x");
        Session.due("text", s.ask(2, "b"), "c d");
    }

    private static final String F = "printf 'b 2\\na 10\\nc 1\\nb 2\\n' > f; printf 'x' > g; ";

    private static void texts() {
        runs(F + "cat f g; echo; cat g f | tail -n 3; cat nope g; echo $?; cat < g; echo; cat g nope / g; echo $?; cat -; echo $?; cat", "b 2\na 10\nc 1\nb 2\nx\na 10\nc 1\nb 2\nx1\nx\nxx1\n1\n?0");
        runs(F + "wc -l f; wc -w f; wc -c f; wc -l g; wc -w g f; wc -c g f; wc -l < f; wc -l f nope; echo $?; wc f; echo $?; wc -lw f; echo $?; wc -l -w f; echo $?; wc; echo $?; printf ' a\\tb\\n\\nc ' | wc -w",
            "4\n8\n17\n0\n8\n18\n4\n4\n1\n2\n2\n4\n1\n2\n3\n?0");
        runs(F + "head -n 2 f; head -n 0 f; head -n 1 g f; tail -n 1 f g; tail -n 0 f; head -n 9 g; tail -n 2 nope f; echo $?; seq 1 12 | head | tail -n 1; seq 1 12 | tail | head -n 1",
            "b 2\na 10\nxb 2\nx\nx\nc 1\nb 2\n1\n10\n3\n?0");
        runs(F + "head -n; echo $?; head -n x f; echo $?; head -n -1 f; echo $?; head -2 f; echo $?; tail -n '' f; echo $?; tail -c 1; echo $?; head -n 999999999999999999 g; head -n 007 g", "2\n2\n2\nb 2\na 10\nc 1\nb 2\n1\n2\n1\nx\nx\n?0");
        runs("printf '1\\n2\\n3\\n' > f; { head -n 1; read x; echo $?; } < f; { read x; cat; } < f", "1\n1\n2\n3\n?0");
        runs(F + "sort f; sort -r f; sort -u f; sort g f; sort -u -r f; sort f -r; echo $?; sort -ru f; echo $?; sort nope f | head -n 1; sort < g", "a 10\nb 2\nb 2\nc 1\nc 1\nb 2\nb 2\na 10\na 10\nb 2\nc 1\na 10\nb 2\nc 1\nxb 2\nc 1\nb 2\na 10\na 10\nb 2\nb 2\nc 1\n1\na 10\nb 2\nb 2\nc 1\n1\na 10\nx\n?0");
        runs("printf '10\\n9\\n-3\\nx\\n\\n 4\\n\\t-5 z\\n9 a\\n010\\n--1\\n' | sort -n", "\t-5 z\n-3\n\n--1\nx\n 4\n9\n9 a\n010\n10\n?0");
        runs("printf '2 b\\n2 a\\n1\\n2 a\\n' > f; sort -n -r -u f; sort -n -n f | head -n 1; printf '9999999999999999991\\n1000000000000000000\\n' | sort -n", "2 b\n2 a\n1\n1\n1000000000000000000\n9999999999999999991\n?0");
        runs("printf 'B\\na\\n-\\nA\\n' | sort; printf 'ab\\na\\n' | sort; printf 'a\\n\\n' | sort -r; printf '' | sort", "-\nA\nB\na\na\nab\na\n\n?0");
        runs("printf 'a\\na\\nb\\na' > f; uniq < f; uniq -c < f; uniq f; echo $?; uniq -c f; echo $?; uniq -d; echo $?; uniq < /dev/null; printf '\\n\\n' | uniq -c", "a\nb\na\n2 a\n1 b\n1 a\n2\n2\n2\n2 \n?0");
    }

    private static void signs() {
        runs("t() { printf 'hello world-\\n'; }; t | tr a-y b-z; t | tr lo 01; t | tr -d lo; t | tr 'a-z' A; t | tr ' \\n' '_.'; echo; t | tr a-z A-Z; t | tr -d ' -'; t | tr l-m x; t | tr ab abc",
            "ifmmp xpsme-\nhe001 w1r0d-\nhe wrd-\nAAAAA AAAAA-\nhello_world-.\nHELLO WORLD-\nhelloworld\nhexxo worxd-\nhello world-\n?0");
        runs("echo a-cz | tr c-a 123; echo abc | tr aab 123; echo 'a\\b' | tr '\\\\' /; printf 'a\\tb' | tr '\\t' x; echo; echo 'a\\q' | tr '\\q' 12; echo ab- | tr a- xy; echo ab- | tr -- -b; echo abc- | tr a-c-e 12345", "321z\n13c\na/b\naxb\na12\nxby\nab-\n1234\n?0");
        runs("tr a; echo $?; tr; echo $?; tr a b c; echo $?; tr -d; echo $?; tr -d a b; echo $?; tr a ''; echo $?; tr -d '' < /dev/null; echo $?; echo ab | tr '' x; tr '' ''; echo $?", "2\n2\n2\n2\n2\n2\n0\nab\n2\n?0");
        runs("printf 'a:b:c\\nnone\\n:x\\nd:' > f; cut -d : -f 1 f; cut -d : -f 2 f; cut -d : -f 4 f; cut -d b -f 2 < f; cut -d : -f 999999999999999999 f", "a\nnone\n\nd\nb\nnone\nx\n\n\nnone\n\n\n:c\nnone\n:x\nd:\n\nnone\n\n\n?0");
        for (String wrong : new String[] {"", "-d : f", "-f 1 -d : f", "-d :: -f 1", "-d '' -f 1", "-d : -f 0", "-d : -f -1", "-d : -f x", "-d : -f", "-f 1", "-d: -f1"}) {
            runs("cut " + wrong, "?2");
        }
        runs("printf 'abc\\nb\\n\\nxab' > f; grep ab f; echo $?; grep -v b f; grep -c b f; grep -c -v b f; grep q f; echo $?; grep -c q f; echo $?; grep '' f; grep a.c f; echo $?; grep -q b f; echo $?; grep; echo $?; grep -v; echo $?",
            "abc\nxab\n0\n\n3\n1\n1\n0\n1\nabc\nb\n\nxab\n1\n1\n2\n2\n?0");
        runs("printf 'abc\\nb\\n' > f; grep b nope f; echo $?; grep -c b f nope f; echo $?; grep q nope; echo $?; grep -v -v q f; grep -cv b f; echo $?; printf -- '-v\\n' | grep -- -v", "abc\nb\n1\n4\n1\n1\nabc\nb\n1\n?1");
        runs("seq 1 3; seq 3 1; echo $?; seq -1 1; seq 5 5; seq 007 8; seq 1; echo $?; seq a 2; echo $?; seq 1 2 3; echo $?; seq 1 10001; echo $?; seq 999999999999999998 999999999999999999; seq -999999999999999999 999999999999999999; echo $?", "1\n2\n3\n0\n-1\n0\n1\n5\n7\n8\n2\n2\n2\n2\n999999999999999998\n999999999999999999\n2\n?0");
        runs("seq 1 10000 | tail -n 0; echo $?; seq -1 9999; echo $?", "0\n2\n?0");
    }

    private static int unit(String word, int i) {
        return word.startsWith("\\n", i) || word.startsWith("\\t", i) || word.startsWith("\\\\", i) ? 2 : 1;
    }

    private static char sign(String word, int i) {
        return unit(word, i) == 1 ? word.charAt(i) : word.charAt(i + 1) == 'n' ? '\n' : word.charAt(i + 1) == 't' ? '\t' : '\\';
    }

    /** All signs that a word of tr tells. */
    private static String spelled(String word) {
        StringBuilder all = new StringBuilder();
        int i = 0;
        while (i < word.length()) {
            char low = sign(word, i);
            i += unit(word, i);
            if (i + 1 < word.length() && word.charAt(i) == '-') {
                char high = sign(word, i + 1);
                i += 1 + unit(word, i + 1);
                for (char c = low; c <= high; c++) {
                    all.append(c);
                }
                all.append(high < low ? low + "-" + high : "");
            } else {
                all.append(low);
            }
        }
        return all.toString();
    }

    /** Words of tr that are spelled out in full by this test, and as they come by the class. */
    private static void wordsOfTr() {
        String signs = "abcdz-\\nt -";
        String text = "abcdefyz-\\\t n!t\n";
        int seed = 1;
        for (int round = 0; round < 400; round++) {
            StringBuilder[] words = {new StringBuilder(), new StringBuilder()};
            for (int i = 0; i < 14; i++) {
                seed = seed * 1103515245 + 12345;
                words[i & 1].append(signs.charAt((seed >>> 16) % signs.length()));
            }
            String a = words[0].substring(round % 6);
            String b = words[1].substring(round % 7);
            StringBuilder due = new StringBuilder();
            StringBuilder left = new StringBuilder();
            for (char c : text.toCharArray()) {
                int at = spelled(a).indexOf(c);
                String to = spelled(b);
                due.append(at < 0 ? c : to.charAt(Math.min(at, to.length() - 1)));
                left.append(at < 0 ? String.valueOf(c) : "");
            }
            Session s = new Session();
            s.put(1, "/f", text);
            s.put(0, "a", a);
            s.put(0, "b", b);
            boolean option = a.equals("-d");
            runsOn(s, "tr \"$a\" \"$b\" < /f", option ? null : due + "?0");
            runsOn(s, "tr -d \"$a\" < /f", left + "?0");
        }
    }

    private static void runsOn(Session s, String script, String want) {
        if (want != null) {
            Session.due(script, s.run(script), want);
        }
    }

    private static void files() {
        runs("mkdir d d/e; > d/.h; > d/b; > d/B; ls d; ls; ls d/b; ls d/e; ls -l; echo $?; ls d d; echo $?; ls nope; echo $?; cd d; ls ..; ls ./b; ls b/; echo $?; ls ''; echo $?", ".h\nB\nb\ne\nd\nd/b\n1\n2\n1\nd\n./b\n1\n1\n?0");
        runs("mkdir; echo $?; mkdir a a/b c/d a e; echo $?; ls; ls a; mkdir f/; echo $?; mkdir a/; echo $?; mkdir .; echo $?; mkdir ''; echo $?; mkdir /; echo $?; mkdir a/..; echo $?; > g; mkdir g; echo $?; mkdir g/h; echo $?; mkdir -p x; echo $?; ls",
            "2\n1\na\ne\nb\n1\n1\n1\n1\n1\n1\n1\n1\n0\n-p\na\ne\ng\nx\n?0");
        runs("> a; > b; mkdir d; > d/c; rm; echo $?; rm a nope d b; echo $?; ls; rm d/c; echo $?; ls d; rm d/; echo $?; rm -f d; echo $?; rm /dev/null; echo $?; rm /; echo $?", "2\n1\nd\n0\n1\n1\n1\n1\n?0");
        runs("touch; echo $?; echo q > a; mkdir d; touch a b d d/ n/x; echo $?; cat a; ls; touch c/; echo $?; touch /d/z; ls d; touch ''; echo $?", "2\n1\nq\na\nb\nd\n1\nz\n1\n?0");
        runs("echo 1 > a; mkdir d; cp a b; cat b; cp a d; cat d/a; cp a d/q; cp b d/; ls d; cp a nope/x; echo $?; cp a nope/; echo $?; cp nope b; echo $?; cat b; cp d e; echo $?; cp a a; echo $?; cp a ./a; echo $?; cp a .; echo $?; cp a; echo $?; cp a b d; echo $?; cp a d/../b; echo $?",
            "1\n1\na\nb\nq\n1\n1\n1\n1\n1\n1\n1\n1\n2\n2\n0\n?0");
        runs("echo 12345 > a; echo 2 > b; cp b a; cat a; mkdir d d/a; cp a d; echo $?; cp /dev/null b; cat b; cp /dev/null d; ls d; cp a /dev/null; echo $?; cp /dev/null /dev/null; echo $?; ls", "2\n1\na\nnull\n1\n1\na\nb\nd\n?0");
        runs("echo 1 > a; mkdir d; mv a b; ls; cat b; mv b d; ls; ls d; mv d/b d/c; mv d/c .; ls; cat c; mv c c; echo $?; mv c .; echo $?; mv d e; echo $?; mv nope x; echo $?; mv c nope/; echo $?; mv c n/x; echo $?; mv c; echo $?; mv c d d; echo $?; mv c d/; ls d; mv d/c /dev/null; echo $?; mv d/c d; echo $?",
            "b\nd\n1\nd\nb\nc\nd\n1\n1\n1\n1\n1\n1\n1\n2\n2\nc\n1\n1\n?0");
        runs("echo 1 > a; echo 2 > b; mv a b; ls; cat b; mkdir d d/b; mv b d; echo $?; { echo x > c; mv b c; cat; } < b; echo y > a; { mv a c; cat; } < c; cat c", "b\n1\n1\n1\ny\n?0");
        Session s = new Session();
        s.run("echo abc > a; echo x > b; mv a b; mkdir d; rm b; echo q > d/f; cp d/f d/g; > d/g");
        Session.due("bytes", s.shell.count(12), 2);
        Session.due("files", s.shell.count(10), 2);
        Session.due("directories", s.shell.count(11), 2);
    }

    public static void main(String[] args) {
        small();
        printf();
        tests();
        comparisons();
        oneBehindAnother();
        reads();
        aliases();
        texts();
        signs();
        wordsOfTr();
        files();
        Session.end();
    }
}
