/** Promise 5, expanding: parameters, substitutions, arithmetic, fields, patterns, path names. */
public final class ExpandTest {
    private static void runs(String text, String want) {
        Session.runs(text, want);
    }

    /** The fields that words come to, each within < > . */
    private static void fields(String setting, String words, String want) {
        Session.runs("show() { for i do printf '<%s>' \"$i\"; done; }; " + setting + "\nshow " + words, want + "?0");
    }

    private static void sum(String text, String want) {
        // A text whose ( and ) are no pairs is told by a variable: else they would end the arithmetic elsewhere.
        boolean odd = text.equals("(1") || text.equals("1)") || text.equals("1)+(2") || text.equals("1||(");
        Session.runs("x=7 y=-3 z= n=abc o=010 h=-0x1f b=' 1' p=+1; " + (odd ? "t='" + text + "'; echo $(($t))" : "echo $((" + text + "))"),
            want.equals("?2") ? "?2" : want + "\n?0");
    }

    private static void quoting() {
        fields("", "a'b c'\"d e\"\\ f ''", "<ab cd e f><>");
        fields("x='1 2'", "\"\\$x \\a \\\" \\` \\\\\" '\\$x'", "<$x \\a \" ` \\><\\$x>");
        fields("", "$ a$ \"$\" $'q' $% \\$x", "<$><a$><$><$q><$%><$x>");
        fields("", "\"a\\\nb\" 'c\\\nd' e\\\nf", "<ab><c\\\nd><ef>");
    }

    private static void parameters() {
        fields("x=v; set a b c d e f g h i j k", "$x ${x}y $1$2 $10 ${10} ${0011} $# ${#} $0 $$ $-.", "<v><vy><ab><a0><j><k><11><11><sh><1><.>");
        fields("set -fu", "$- ${-}", "<fu><fu>");
        fields("set -u -e", "$-", "<eu>");
        fields("false", "$? ${?}", "<1><1>");
        fields("set a 'b c' ''", "\"$@\" $@ \"x$@y\" \"$*\"", "<a><b c><><a><b><c><xa><b c><y><a b c >");
        fields("set a 'b c' ''", "$* x$*y \"${@}\" \"${*}\"", "<a><b><c><xa><b><c><y><a><b c><><a b c >");
        fields("", "\"$@\" \"$@$@\" \"$*\" $@ $* \"a$@\" \"$@\"b \"\"$@", "<><><a><b><>");
        fields("set 'a b' c; IFS=-:", "\"$*\" \"$@\" $*", "<a b-c><a b><c><a b><c>");
        fields("set a b; IFS=", "\"$*\" $* \"$@\"", "<ab><a><b><a><b>");
        fields("set a b; unset IFS", "\"$*\"", "<a b>");
        runs("set a b; IFS=-; x=$* y=$@ z=\"$*\" w=\"$@\"; IFS=; echo \"$x $y $z $w\"", "a-b a b a-b a b\n?0");
        fields("x=abc u=", "${#x} ${#u} ${#} ${#@} ${#1}.", "<3><0><0><0><0.>");
        fields("set aa b; x=", "${#@} ${#*} ${#1} ${##} ${#-} ${#?} ${#$} ${#0}", "<2><2><2><1><0><1><1><2>");
        fields("x=1 e=", "${x-a} ${e-a} ${e:-a} ${u-a} ${u:-a}", "<1><a><a><a>");
        fields("x=1 e=", "${x+a} ${e+a} ${e:+a} ${u+a} ${u:+a}.", "<a><a><.>");
        fields("x=1 e=", "${x=a} ${e=b}. ${e:=c} ${u=d} ${v:=f} $x$e$u$v", "<1><.><c><d><f><1cdf>");
        fields("x=1 e=", "${x?a} ${x:?a} \"${e?a}\"", "<1><1><>");
        runs("${u?a $(echo b >&2)}; echo no", "?2");
        runs("e=; ${e:?}; echo no", "?2");
        runs("echo ${1=$(echo b >&2)a}; echo no", "?2");
        runs("echo ${@=a}; echo no", "?2");
        runs("set a; echo ${1=b} ${@=c} ${#=d}", "a a 1\n?0");
        runs("set ''; echo ${1:=b}; echo no", "?2");
        runs("readonly r; echo ${r=a}. ${r:=$(echo b >&2)}; echo no", "[2]b\n?2");
        fields("", "${@-none} ${*-none} ${@:-none} \"${@+some}\"", "<none><none><none><>");
        fields("set ''", "\"${@-none}\" ${@:-none} ${@+some} ${@:+some}", "<><none><some>");
        fields("set '' ''", "${*:-none} ${*-none}", "<none>");
        fields("set '' a", "${@:-none} \"${@:+x $#}\"", "<a><x 2>");
        fields("", "${u-a b \"c d\" 'e f' \\  \"\"}", "<a><b><c d><e f>< >".replace("< >", "< >") + "<>");
        fields("", "\"${u-a 'b' \"c d\" \\} \\\" \\a}\" ${u-\\}}", "<a 'b' c d } \" \\a><}>");
        fields("set a 'b c'", "${u-$@} ${u-\"$@\"} \"${u-$@}\" ${u-$*}", "<a><b><c><a b c><a b c><a><b><c>");
        fields("set a b; IFS=:", "${u-$@} ${u-$*} ${u-a:b} ${u-a':'b}", "<a b><a><b><a><b><a:b>");
        fields("", "${u-''} ${u-} ${u-\"\"}", "<><>");
        fields("x='a b'", "${u-$x}${u=$x}\"$u\"", "<a><ba><ba b>");
        fields("", "${u=\"a  b\"} \"$u\"", "<a  b><a  b>");
        fields("x=1 y=2", "${u-${v-${x+$y}}} ${u+${v?}}", "<2>");
        runs("set -u; echo ${x-a} ${#@} $@ $* ${x+b} $# ${1-c}; x=; echo $x; echo $y; echo no", "a 0 0 c\n\n?2");
        runs("set -u; echo ${#x}; echo no", "?2");
        runs("set -u; echo ${x%$(echo a >&2)}; echo no", "?2");
        runs("set -u; echo $1; echo no", "?2");
        runs("echo \"${x%$(echo a >&2)}\"$1.", ".\n?0");
    }

    /** What begins with ${# is told apart by what follows. */
    private static void hashes() {
        runs("set a b; echo ${#} ${#-x} ${#?x} ${#:-x} ${#=x} ${#+x} ${#:+y} ${##x} ${##2} ${#%2} ${#%%x} ${#-} ${##} ${#?} ${#$} ${#@} ${#*} ${#1} ${#02}", "2 2 2 2 2 x y 2 2 0 1 1 1 2 2 1 1\n?0");
        runs("set 1 2 3 4 5 6 7 8 9 0 1 2; echo ${##*} ${##*1} \"<${###*}>\" ${###1} ${#%?} ${#%%?}; set -e -f; echo ${#-}", "12 2 <> 2 1 1\n2\n?0");
        runs("set a b c; echo ${#%$((1+1))} ${#%$((1+2))}. ${?%$#} ${-#$((1))}.", "3 . 0 .\n?0");
        runs("echo \"${x+a'b}\" \"${PWD-a'b}\" \"${u:=c'd}\" \"${u+a'b}\"", " a'b c'd a'b\n?0");
    }

    private static void cuts() {
        fields("x=a.b.c", "${x%.*} ${x%%.*} ${x#*.} ${x##*.} ${x%c} ${x%b} ${x#?} ${x%%*} ${x##*}.", "<a.b><a><b.c><c><a.b.><a.b.c><.b.c><.>");
        fields("x=aaa", "${x%a} ${x%%a*} ${x#a} ${x##*a}. ${x%%a} ${x#[a]} ${x%[!a]} ${x#}", "<aa><aa><.><aa><aa><aaa><aaa>");
        fields("x='a*b*c' y='*'", "${x#*\\*} ${x##*'*'} \"${x%\"*\"*}\" ${x%$y} ${x%\"$y\"*} \"${x%$y*}\"", "<b*c><c><a*b><a*b*c><a*b><a*b*c>");
        fields("x='a b c'", "${x#* } \"${x#* }\" ${x%\" c\"}", "<b><c><b c><a><b>");
        fields("set abc; x=}a}", "${1#a} ${1%c} ${x#\\}} ${x%\"}\"} ${#%0}.", "<bc><ab><a}><}a><1.>");
        fields("set a b", "${#%2} ${##2}. ${?#0}.", "<.><.>");
        fields("x='a]b' y=a-c", "${x%%[]]*} ${y#a[-]} ${y##[a-c]*-}", "<a><c><c>");
    }

    private static void substitutions() {
        fields("", "$(echo a b) \"$(echo a  b; echo; echo)\" `echo c d` \"`echo \\\"e  f\\\"`\"", "<a><b><a b><c><d><e  f>");
        fields("", "x$(printf 'a\\n\\n\\n')y \"$(printf 'a\\n\\nb\\n')\" $(:) \"$(:)\"", "<xay><a\n\nb><>");
        fields("x=1", "$(x=2; echo $x) $x `echo \\$x \\`echo n\\` '\\\\' \\\\\\\\`", "<2><1><1><n><\\><\\>");
        fields("", "\"`echo '\\\"' \\\\\\\"`\" `echo '\\\"'`", "<\" \"><\\\">");
        fields("", "$(echo $(echo $(echo deep))) $( (echo sub) ) $(case a in a) echo c;; esac)", "<deep><sub><c>");
        runs("false; echo $(true) $?; true; x=$(false)$?; echo $x $?", "1\n0 1\n?0");
        runs("(exit 3); echo $(echo $?) $?", "3 3\n?0");
        runs("x=$(exit 4); echo $?; $(exit 5); echo $?; x=$(exit 6) y=$(exit 7); echo $?; x=$(exit 8) true; echo $?", "4\n5\n7\n0\n?0");
        runs("> $(echo f; exit 9); echo $?; x=1; echo $?; x=a $(exit 1); echo $?", "9\n0\n1\n?0");
        runs("echo $(cat <<E\n$((1+1)) $(echo a)\nE\n)", "2 a\n?0");
        runs("x=$(seq 1 5000); echo ${#x}", "16384\n?0");
        runs("echo \"$(printf 'a\\nb')\"", "a\nb\n?0");
    }

    private static void tildes() {
        fields("HOME='/h *'", "~ ~/a ~a \"~\" \\~ a~ ~\"/a\" ~$x x=~", "</h *></h */a><~a><~><~><a~><~/a><~><x=~>");
        fields("", "~ ~/a", "<~><~/a>");
        fields("HOME=", "~ ~/a", "<></a>");
        runs("HOME=/h; x=~ y=~/a z=~b w=a~; echo $x $y $z $w; for i in ~/q; do echo $i; done; case ~ in ~) echo c;; esac; "
            + "case /h in \"~\") echo no;; esac; echo ${u-~}; mkdir /h; echo r > ~/f; cat /h/f", "/h /h/a ~b a~\n/h/q\nc\n~\nr\n?0");
        runs("HOME=/h; cat <<E\n~\nE", "~\n?0");
        runs("HOME=/h; eval 'echo ~'; x='~'; echo $x", "/h\n~\n?0");
    }

    private static void splitting() {
        fields("x='  a  b\tc\n'", "$x \"$x\" -$x-", "<a><b><c><  a  b\tc\n><-><a><b><c><->");
        fields("IFS=:; x=a::b: y=:a z=:: w=:", "$x . $y . $z . $w . $v", "<a><><b><.><><a><.><><><.><><.>");
        fields("IFS=' :'; x=' a : b : : c '", "$x", "<a><b><><c>");
        fields("IFS=' :'; x=' :a' y='a : ' z=' '", "$x . $y . $z", "<><a><.><a><.>");
        fields("IFS=:; x=a:", "$x\"\" \"\"$x $x$x $x'b' \"$x\"", "<a><><a><a><a><a><b><a:>");
        fields("IFS=:; x=a: y=:b", "$x$y x:y", "<a><><b><x:y>");
        fields("IFS=' :'; x='a ' y=':b'", "$x$y", "<a><b>");
        fields("x=' '", "a$x\"\" \"\"$x \"\"$x\"\" $x", "<a><><><><>");
        fields("IFS=; x='a b'", "$x", "<a b>");
        fields("unset IFS; x=$(printf 'a\\tb c\\nd')", "$x", "<a><b><c><d>");
        fields("IFS=x; x=1xx2", "$x ${x%2} x1x", "<1><><2><1><><x1x>");
        fields("IFS=ab; x=1a2", "$x $((3+3)) ${#x}", "<1><2><6><3>");
        fields("IFS=2; x=121", "$x $((100+21)) ${#x} $(echo 323) \"$((121))\"", "<1><1><1><1><3><3><3><121>");
        fields("set ' a ' '' 'b:c'; IFS=' :'", "$@ . x$@y . \"$*\"", "<a><b><c><.><x><a><b><cy><.>< a   b:c>");
        fields("set a: b; IFS=:", "$@ $*", "<a><b><a><b>");
        fields("IFS=:; x=a:b", "\"$x\"$x '$x' \\$x", "<a:ba><b><$x><$x>");
    }

    /** Where one field ends and the next begins. */
    private static void seams() {
        fields("IFS=' :'; x='a b:c' y='a :b: c' z=': a' v='a : : b'", "$x", "<a><b><c>");
        fields("IFS=' :'; y='a :b: c'", "$y", "<a><b><c>");
        fields("IFS=' :'; z=': a'", "$z", "<><a>");
        fields("IFS=' :'; v='a : : b'", "$v", "<a><><b>");
        fields("x='a\tb\nc d:e'; IFS=:; set -- $x; unset IFS; set -- $# $x", "\"$@\"", "<2><a><b><c><d:e>");
        fields("IFS='\t'; x='\ta\t\tb c\t'", "$x", "<a><b c>");
        fields("IFS='\n'; x='\na\n\nb c\n'", "$x", "<a><b c>");
        fields("IFS='a'; x='1a2'; IFS=b; y='1a2b3'", "$x $y", "<1a2><1a2><3>");
        fields(": ${IFS=,}", "'a'", "<a>");
        fields("unset IFS; : ${IFS=,}; x=a,b", "$x", "<a><b>");
        runs("for i in $u\"$@\"; do echo x; done; for i in a$u\"$@\"; do echo $i; done; x=$(echo); echo \"<$x>\"; x=$(printf '\\n\\n'); echo \"<$x>\"", "a\n<>\n<>\n?0");
        runs("mkdir a a.b a-c; touch a/x a.b/x a-c/x a/w; echo */x */*", "a-c/x a.b/x a/x a-c/x a.b/x a/w a/x\n?0");
        runs("x=$(" + times("echo $(", 18) + "echo q" + times(")", 18) + "); echo $x" + times(" $(echo z)", 30), "q" + times(" z", 30) + "\n?0");
    }

    private static void setsOfSigns() {
        runs("for x in a b c - d x; do case $x in [a-cx]) echo y$x;; *) echo n$x; esac; case $x in [a-c]) echo y$x;; *) echo n$x;; esac; done",
            "ya\nya\nyb\nyb\nyc\nyc\nn-\nn-\nnd\nnd\nyx\nnx\n?0");
    }

    private static long reckoned(int operator, long a, long b) {
        switch (operator) {
            case 0: return a < b ? 1 : 0;
            case 1: return a <= b ? 1 : 0;
            case 2: return a > b ? 1 : 0;
            case 3: return a >= b ? 1 : 0;
            case 4: return a == b ? 1 : 0;
            case 5: return a != b ? 1 : 0;
            case 6: return a != 0 && b != 0 ? 1 : 0;
            case 7: return a != 0 || b != 0 ? 1 : 0;
            case 8: return a + b;
            case 9: return a - b;
            case 10: return a * b;
            case 11: return a & b;
            case 12: return a | b;
            case 13: return a ^ b;
            case 14: return a << (b & 63);
            default: return a >> (b & 63);
        }
    }

    /** Each operator between small and great numbers, and as one that assigns. */
    private static void operators() {
        String[] told = {"<", "<=", ">", ">=", "==", "!=", "&&", "||", "+", "-", "*", "&", "|", "^", "<<", ">>"};
        long[] values = {-9223372036854775807L, -70, -3, -1, 0, 1, 2, 3, 65, 9223372036854775807L};
        for (int i = 0; i < told.length; i++) {
            for (long a : values) {
                StringBuilder script = new StringBuilder();
                StringBuilder due = new StringBuilder();
                for (long b : values) {
                    script.append("a=").append(a).append(" b=").append(b).append("; echo $((a ").append(told[i]).append(" b)); ");
                    due.append(reckoned(i, a, b)).append('\n');
                    if (i >= 8) {
                        script.append("echo $((a").append(told[i]).append("=b)) $a; ");
                        due.append(reckoned(i, a, b)).append(' ').append(reckoned(i, a, b)).append('\n');
                    }
                }
                runs(script.toString(), due + "?0");
            }
        }
        sum("0xA+0XfF+0xa+0x1f", "306");
        sum("1-1?2:3", "3");
        sum("0||1?2:3", "2");
        sum("1&&0?2:3", "3");
        runs("echo $(( 1 ? 4 : (x=5) )) $(( 0 ? (x=1) : (y=2) )) \"$x\" $y; echo $(( 0 && (1 ? (z=1) : (z=2)) )) $(( 1 || (0 ? (z=1) : (z=2)) )) \"$z\"; echo $(( (0 && (v=1)) + (w=2) )) \"$v\" $w $(( (0 ? (v=1) : 3) + (t=4) )) $t",
            "4 2  2\n0 1 \n2  2 7 4\n?0");
        for (String wrong : new String[] {"0x", "0xg", "08", "1)2", "1 2", "-", "1+", "x=", "(1", "1?2", "1:2", "()", "a b", "1=2", "(x)=1", "1?2:x=3", "-x=1", "n", "m", "k"}) {
            runs("n=- m=' 5' k=+5 w='" + wrong + "'; (: $(($w))); echo $?", "2\n?0");
        }
    }

    /** An arithmetic that was left says nothing of the next one; 40 within one another, in each way. */
    private static void sumsBehindErrors() {
        runs("w='1+(2+'; (: $(($w))); (: $((1?))); (: $((-))); w='x=(1'; (: $(($w))); (: $((1/0))); echo $((1+2)) $((4)) $((x=5)) $((1?6:7)) $x", "3 4 5 6 5\n?0");
        runs("w='" + times("(", 40) + "'; (: $(($w))); echo $((" + times("(", 40) + "1" + times(")", 40) + "))", "1\n?0");
        String[][] ways = {{"(", ")"}, {"- ", ""}, {"+ ", ""}, {"!", ""}, {"~", ""}, {"x=", ""}, {"0?1:", ""}, {"1?", ":2"}, {"x+=", ""}};
        for (String[] way : ways) {
            String most = times(way[0], 40) + "1" + times(way[1], 40);
            runs("(: $((" + most + "))); echo $?; (: $((" + way[0] + most + way[1] + "))); echo $?; (: $((" + most + "))); echo $?", "0\n2\n0\n?0");
        }
        for (String ahead : new String[] {"1+1*1-1", "(1)+(1)+(1)", "1?1:1", "-1+-1+-1", "x=1"}) {
            runs("(: $((" + ahead + "+" + times("(", 41) + "1" + times(")", 41) + "))); echo $?; (: $(((" + ahead + ")+" + times("-", 40) + "1))); echo $?", "2\n0\n?0");
        }
        runs("(: $((1)2)); echo no); echo $?; (: $(( 1 ) )); echo no); echo $?; w=')'; (: $((1$w)); echo no); echo $?", "2\n2\n2\n?0");
        runs("echo $((" + times("(1)+", 50) + times("-1+", 50) + times("!1+", 50) + times("~-1+", 50) + times("(0?1:0)+", 50) + "0))", "0\n?0");
    }

    private static void pathNames() {
        String made = "mkdir d d/e .h; touch a ab abc b.c '*' '[x]' d/a d/.i d/e/z .h/q";
        fields(made, "*", "<*><[x]><a><ab><abc><b.c><d>");
        fields(made, "a* ?b a?? [ab]* [!a]* *.* .* no* \"a\"*", "<a><ab><abc><ab><abc><a><ab><abc><b.c><*><[x]><b.c><d><b.c><.h><no*><a><ab><abc>");
        fields(made, "\"*\" '*' \\* a\\* \"a\"'*' [[]x] [\"[\"]* []x]*", "<*><*><*><a*><a*><[x]><[x]><[]x]*>");
        fields(made, "d/* */ */* d//* ./a* ../d/* /d/a* d/.* .h/* d/*/z d/../a?", "<d/a><d/e><d/><d/a><d/e><d//a><d//e><./a><./ab><./abc><../d/a><../d/e></d/a><d/.i><.h/q><d/e/z><d/../ab>");
        fields(made, "a/* */. d*/.. d/e*/ [d]/[e]/z \\d/? d/\\e/* \"d/\"*", "<a/*><d/.><d/..><d/e/><d/e/z><d/a><d/e><d/e/z><d/a><d/e>");
        fields(made, "[a] [!a] [] [!] [a [a/b] x[*", "<a><*><d><[]><[!]><[a><[a/b]><x[*>");
        fields(made + "; x='a*' y='[ab' z='\\*'", "$x \"$x\" $y $y*] ${u-a?} $z", "<a><ab><abc><a*><[ab><*><a><ab><\\*>");
        fields(made + "; set -f", "* $- a?", "<*><f><a?>");
        runs("touch a b; x=* y=[a]; echo \"$x $y\"; for i in ?; do echo $i; done; case a in ?) echo one; esac; echo z > *; ls", "* [a]\na\nb\none\n*\na\nb\n?0");
        fields("mkdir a a.b; touch a/x a.b/x", "*/x */", "<a.b/x><a/x><a.b/><a/>");
        fields("touch 'a b'; x='a*'", "$x a*", "<a b><a b>");
        fields("IFS=:; touch ab; x='a*:?b'", "$x", "<ab><ab>");
        runs("cd /; mkdir d; touch d/a; cd d; echo * ../*/a", "a ../d/a\n?0");
    }

    /** Nearly a thousand paths lead to the same names: a name is matched once, or this would take minutes. */
    private static void manyNames() {
        String names = "for i in 1 2 3; do for j in 1 2 3 4 5 6 7 8 9 0; do mkdir d$i$j; done; done; for i in 1 2 3 4 5 6 7 8 9; do for j in 1 2 3 4 5 6 7 8 9; do "
            + "for k in 1 2 3; do > $i$j${k}aaaaaaaaaaaaaaaaaaaaaaaaaaaaaaaaaaaaaaaaaaaaaaaaaaaaaaa; done; done; done; ";
        runs(names + "q=????????????????????; q=$q$q$q$q$q$q$q$q$q$q; q=$q$q$q$q$q$q$q$q$q$q; echo */../*/../$q | wc -c", "2011\n?0");
        runs(names + "q=abababababababababab; q=$q$q$q$q$q$q$q$q$q$q; q=$q$q$q$q$q$q$q$q$q$q; echo */../*/../*[$q$q]*b | wc -c", "4016\n?0");
        runs(names + "echo */../11*[ab]?? | wc -w; echo */../d1[1-3] | wc -w; echo */../11* */../12* | wc -w", "90\n90\n180\n?0");
    }

    private static void patterns() {
        String[][] fitting = {{"abc", "abc"}, {"abc", "a*"}, {"abc", "*c"}, {"abc", "*"}, {"", "*"}, {"", "''"}, {"abc", "a?c"}, {"abc", "?*?"},
            {"abc", "*b*"}, {"aXbXc", "a*X*c"}, {"a", "[abc]"}, {"b", "[a-c]"}, {"d", "[!a-c]"}, {"]", "[]]"}, {"a", "[!]]"}, {"-", "[a-]"},
            {"-", "[-a]"}, {"b", "[a-bx-z]"}, {"[", "["}, {"[a", "[a"}, {"a*", "a\\*"}, {"a*", "'a*'"}, {"a.b", "*.*"}, {".a", "*"}, {"a/b", "a*b"},
            {"a/b", "a?b"}, {"^", "[^a]"}, {"a", "[^a]"}, {"!", "[a!]"}, {"!", "[\\!a]"}, {"-", "[a'-'z]"}, {"]", "[a\\]b]"}, {"a]", "[[]]"}, {"aa", "[a]a"},
            {"_", "[]-a]"}, {"[]", "[]"}, {"[!]", "[!]"}, {"b", "[\"a\"-c]"}, {"\\\\", "\\\\"}, {"a[b", "a[b"}};
        for (String[] pair : fitting) {
            boolean want = !(pair[0].equals("a]") && pair[1].equals("[[]]"));
            String quoted = pair[0].equals("\\\\") ? "'\\'" : "'" + pair[0] + "'";
            runs("case " + quoted + " in " + pair[1] + ") echo fits;; esac", want ? "fits\n?0" : "?0");
        }
        String[][] unfitting = {{"abc", "ab"}, {"abc", "b*"}, {"abc", "?"}, {"abc", "????"}, {"d", "[a-c]"}, {"a", "[!a-c]"}, {"m", "[z-a]"},
            {"z", "[z-a]"}, {"abc", "'*'"}, {"b", "[a'-'c]"}, {"", "?"}, {"ab", "[ab]"}, {"a", "[\\!a"}, {"b", "[^a]"}, {"ac", "a*b"}};
        for (String[] pair : unfitting) {
            runs("case '" + pair[0] + "' in " + pair[1] + ") echo fits;; *) echo not; esac", "not\n?0");
        }
        runs("x='a*'; case abc in $x) echo 1;; esac; case abc in \"$x\") echo 2;; esac; case 'a*' in \"$x\") echo 3;; esac; case abc in ${u-a*}) echo 4; esac", "1\n3\n4\n?0");
        runs("set a b; case 'a b' in $@) echo 1; esac; case 'a b' in \"$@\") echo 2; esac; IFS=-; case a-b in $*) echo 3; esac", "1\n2\n3\n?0");
    }

    private static void sums() {
        String[][] right = {{"", "0"}, {" \t\n ", "0"}, {"1", "1"}, {"010", "8"}, {"0x1f", "31"}, {"0xAb", "171"}, {"00", "0"}, {"9223372036854775807+1", "-9223372036854775808"},
            {"9223372036854775808", "-9223372036854775808"}, {"18446744073709551617", "1"}, {"0xffffffffffffffff", "-1"}, {"02000000000000000000000", "0"},
            {"x", "7"}, {"$x", "7"}, {"y", "-3"}, {"z", "0"}, {"unset", "0"}, {"o", "8"}, {"h", "-31"}, {"1+2*3", "7"}, {"(1+2)*3", "9"}, {"7/2", "3"}, {"-7/2", "-3"},
            {"-7%3", "-1"}, {"7%-3", "1"}, {"1<<3", "8"}, {"1<<65", "2"}, {"-8>>1", "-4"}, {"1<<-1", "-9223372036854775808"}, {"3<4", "1"}, {"4<=3", "0"}, {"4>3", "1"}, {"3>=3", "1"},
            {"3==3", "1"}, {"3!=3", "0"}, {"6&3", "2"}, {"6|3", "7"}, {"6^3", "5"}, {"2&&3", "1"}, {"0||0", "0"}, {"!5", "0"}, {"!0", "1"}, {"~5", "-6"}, {"-x", "-7"}, {"- -3", "3"},
            {"--3", "3"}, {"+-+3", "-3"}, {"!!3", "1"}, {"1?2:3", "2"}, {"0?2:3", "3"}, {"0?1:0?2:3", "3"}, {"1?0?5:6:7", "6"}, {"1?2:1/0", "2"}, {"0&&1/0", "0"}, {"1||n", "1"},
            {"0?n:4", "4"}, {"a=5", "5"}, {"a=b=3", "3"}, {"x+=3", "10"}, {"x-=1,0", "?2"}, {"x*=2", "14"}, {"x/=2", "3"}, {"x%=4", "3"}, {"x<<=1", "14"}, {"x>>=1", "3"}, {"x&=3", "3"},
            {"x|=8", "15"}, {"x^=1", "6"}, {"unset+=2", "2"}, {"1+(a=2)*a", "5"}, {"1?a=2:3", "2"}, {"0||(a=3)", "1"}, {" 1 + 2 ", "3"}, {"1\n+\t2", "3"}, {"2*3%4", "2"}, {"10-2-3", "5"},
            {"1<2==1", "1"}, {"1|2^3&4", "3"}, {"1==2<3", "1"}, {"5-3<<1", "4"}, {"1||0&&0", "1"}, {"x=y", "-3"}, {"x+++y", "4"}, {"x---y", "10"}, {"x- -y", "4"}, {"(((7)))", "7"}, {"1)+(2", "?2"},
            {"-9223372036854775808/-1", "-9223372036854775808"}, {"-9223372036854775808%-1", "0"}, {"'1'", "?2"}, {"\"1\"", "?2"}, {"\\\"1", "?2"}, {"${u-3}+$((1+1))", "5"}, {"`echo 4`+1", "5"},
            {"x =5", "5"}, {"x== 7", "1"}, {"x=(y=2)+1", "3"}, {"1?x=2:(x=3)", "2"}, {"0X10", "16"}};
        for (String[] pair : right) {
            sum(pair[0], pair[1]);
        }
        for (String text : new String[] {"1/0", "1%0", "x/=0", "1+", "+", "*2", "(1", "1)", "()", "1 2", "x y", "1?2", "1?2:", "?1:2", "1:2", "08", "09", "0x", "0xg", "1a", "n", "n+1", "b", "p", "a b", "1=2",
            "(x)=2", "x+1=2", "-x=2", "1?2:x=3", "x=", "=2", "x+=", "x&&=1", "1,2", "x++", "1.5", "@", "#", "a[1]", "0&&1 2", "1||(", "1?2:3 4", "!", "1<", "1<<<2", "2**3", "$", "1;2", "!x=1", "0?x:y=1", "x==", "n+=1"}) {
            sum(text, "?2");
        }
        runs("n=1x; echo $((n=3)) $n; echo $((0 && (m=1)))$m; echo $((1 ? 5 : (m=1)))$m", "3 3\n0\n5\n?0");
        runs("readonly r=1; echo $((r)) $((0&&(r=2))); echo $((r=2)); echo no", "1 0\n?2");
        // What stands whole ahead of the sign that is wrong is done; the rest isn't.
        String[][] halves = {{"a=5 6", "5", null}, {"a=1+2, b=4", "3", null}, {"(a=1)+(b=2 $)", "1", "2"}, {"a=b=4)", "4", "4"}, {"1?a=2;b=3", "2", null},
            {"a=1+", null, null}, {"a=1/0", null, null}, {"0?a=1;2", null, null}, {"a=2+b=3", "2", null}, {"a=1?b=2", null, "2"}, {"a=(b=3)/0", null, "3"}};
        for (String[] half : halves) {
            Session h = new Session();
            Session.due(half[0], h.run("x='" + half[0] + "'; echo $(($x))"), "?2");
            Session.due(half[0] + ": a", h.ask(0, "a"), half[1]);
            Session.due(half[0] + ": b", h.ask(0, "b"), half[2]);
        }
        runs("x='1+1'; echo $(($x)); echo $((x)); echo no", "2\n?2");
        runs("set -u; echo $((nothing+1))", "1\n?0");
        runs("echo $((" + times("(", 40) + "1" + times(")", 40) + "))", "1\n?0");
        runs("echo $((" + times("(", 41) + "1" + times(")", 41) + "))", "?2");
        runs("echo $((" + times("- ", 40) + "1))", "1\n?0");
        runs("echo $((" + times("- ", 41) + "1))", "?2");
        runs("echo $((0||" + times("- ", 41) + "1))", "?2");
        runs("echo $((" + times("a=", 40) + "1))", "1\n?0");
        runs("echo $((" + times("a=", 41) + "1))", "?2");
        runs("echo $((" + times("1?", 40) + "1" + times(":2", 40) + "))", "1\n?0");
        runs("echo $((" + times("1?", 41) + "1" + times(":2", 41) + "))", "?2");
        runs("echo $((" + times("0?1:", 40) + "2))", "2\n?0");
        runs("echo $((" + times("0?1:", 41) + "2))", "?2");
        runs("echo $((" + times("(1)+", 300) + "1))", "301\n?0");
    }

    private static String times(String text, int n) {
        StringBuilder all = new StringBuilder();
        for (int i = 0; i < n; i++) {
            all.append(text);
        }
        return all.toString();
    }

    private static void hereDocuments() {
        runs("x=1; cat <<E\n$x ${x}2 $((x+1)) $(echo a) `echo b` \"$x\" '$x' \\$x \\` \\\\ \\a \\\" a\\\nb * ~\nE",
            "1 12 2 a b \"1\" '1' $x ` \\ \\a \" ab * ~\n?0");
        runs("x=1; cat <<'E'\n$x \\$x `a` \\\\\nE", "$x \\$x `a` \\\\\n?0");
        runs("x=1; cat <<\\E\n$x\nE", "$x\n?0");
        runs("x='a  b'; cat <<E\n$x ${u-\"c  'd'\"}\nE", "a  b c  'd'\n?0");
        runs("set 'a  b' c; IFS=-; cat <<E\n$* $@ \"$*\"\nE", "a  b-c a  b c \"a  b-c\"\n?0");
        runs("cat <<E\nE", "?0");
        runs("cat <<-E; echo x\n\ta\n\t\t b\n\tE", "a\n b\nx\n?0");
        runs("cat <<A - 2>/dev/null <<B\na\nA\nb\nB\necho $?", "1\n?0");
        runs("read a b <<E\nx y z\nE\necho $b", "y z\n?0");
        runs("while read x; do echo \"[$x]\"; done <<E\na\nb c\nE", "[a]\n[b c]\n?0");
        runs("f() { cat <<E\n$1\nE\n}; f p; f q", "p\nq\n?0");
        runs("cat <<E\n${u?}\nE\necho no", "?2");
    }

    public static void main(String[] args) {
        quoting();
        parameters();
        hashes();
        cuts();
        seams();
        setsOfSigns();
        operators();
        sumsBehindErrors();
        substitutions();
        tildes();
        splitting();
        pathNames();
        manyNames();
        patterns();
        sums();
        hereDocuments();
        Session.end();
    }
}
