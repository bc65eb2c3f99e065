import java.util.Random;

/**
 * Promises 3, 4, 12: thousands of texts, broken ones too, are read, printed and counted as a second reader does it;
 * and what is printed is read as the same tree. An argument tells how many times as many texts are tried.
 */
public final class ManyTextsTest {
    private static final String[] PIECES = {"cat", "echo", " ", " ", " ", "\n", "\n", "\n", "<<E", "<<-E", "<<'E'", "<<F", "<<-\"F\"", "E\n", "F\n", "E", "F", "\nE\n", "\nE\n",
        "\nF\n", "\t", "\t", "\\", "\\\n", "\\\n", "$(", "$(", ")", ")", "`", "`", "${x-", "}", "\"", "'", "{ ", "}", "; ", "; ", "(", ")", "a", "b", "c", "d", "do", "done",
        "for x in ", "case x in ", "esac", ";;", "|", "&&", "$x", "$((", "))", "x=1", "x=\"", "#", "\\\\", "f() ", "if ", "then ", "fi", "1>", "> ", "<", "1", "&", "! ", "${#",
        "${x%", "${@", "${", "$", "\\`", "\\\"", "\\$", "elif ", "else ", "while ", "until ", "in ", "=", "-", ":", "?", "%", "+", "@", "*"};
    private static final String[] NAMES = {"a", "b", "c", "d", "do", "in", "x", "E", "f", "esac", "cat", "e", "g", "h", "if"};
    private static final String[] ALIASES = {"echo ", "fn ( ", ")", "do", "x y ", "", "\t", "E", "<<E ", "{ ", "}", "`b`", "`b` ", "$(c)", "for x in ", "a b", "cat <<E", "d ", "1",
        "x=1 ", "echo 1", "a\\", "b ", "c", "a ", "if ", "then", "case ", "esac", "in", "> ", "<< ", "'", "${x", "echo $(", "d #", "(", "e", "f ", "g", "h ", "echo `d `"};
    private static final String[] WORDS = {"a", "b", "'q r'", "\"x $y\"", "$z", "1", "x=2", "\\$", "a\\\nb", "${v-w w}", "\"${v-`echo \\\"q\\\"`}\"", "~", "do", "in", "$((1+2))"};
    private static final String[] LINES = {"x", "\t\ty", "z\\\nw", "q\\\\", "$(a)", "${v}", "\\\n", "\t\\\n\tm", "$(cat <<-Q\n\tin\n\tQ\n)"};

    private final Random random;
    // Bodies that wait for the next newline.
    private StringBuilder waiting = new StringBuilder();
    private int documents;
    private int compounds = 12;

    private ManyTextsTest(int seed) {
        random = new Random(seed);
    }

    private boolean oneOf(int n) {
        return random.nextInt(n) == 0;
    }

    private String some(String... texts) {
        return texts[random.nextInt(texts.length)];
    }

    // ---- texts of pieces, most of them broken

    private String pieces(int most) {
        StringBuilder text = new StringBuilder(some("", "", "cat <<E\n", "cat <<-E\n", "x=$(cat <<-E\n"));
        boolean substitution = text.indexOf("$(") >= 0;
        boolean body = text.length() > 0;
        int n = 2 + random.nextInt(most);
        for (int i = 0; i < n; i++) {
            text.append(some(PIECES));
        }
        return text.append(body ? "\nE\n" : "").append(substitution ? ")\necho \"$x\"" : "").toString();
    }

    // ---- texts of the grammar

    private String newline() {
        String lines = "\n" + waiting;
        waiting = new StringBuilder();
        return lines;
    }

    private String blank() {
        return oneOf(3) ? newline() : " ";
    }

    private String separator() {
        return oneOf(2) ? newline() : some("; ", "; ", " & ");
    }

    private String word(int depth) {
        if (depth == 0 || !oneOf(8)) {
            return some(WORDS);
        }
        StringBuilder outer = waiting;
        waiting = new StringBuilder();
        String list = list(depth - 1);
        String end = waiting.length() > 0 || oneOf(2) ? newline() : "";
        waiting = outer;
        return "$(" + (list.startsWith("(") ? " " : "") + list + end + ")";
    }

    private String redirection(int depth) {
        String number = some("", "", "0", "1", "2");
        if (oneOf(3)) {
            return number + some(">", "<", ">>", "<& ", ">&") + " " + word(depth);
        }
        String delimiter = "E" + documents++;
        boolean quoted = oneOf(3);
        boolean tabs = oneOf(2);
        for (int i = random.nextInt(3); i > 0; i--) {
            waiting.append(LINES[random.nextInt(quoted ? 4 : LINES.length)]).append('\n');
        }
        waiting.append(tabs ? some("", "\t") : "").append(delimiter).append('\n');
        return number + (tabs ? "<<-" : "<<") + some("", " ") + (quoted ? "'" + delimiter + "'" : delimiter);
    }

    private String simple(int depth) {
        StringBuilder text = new StringBuilder(some("cmd", "x=1", "x=$y cmd", "echo"));
        for (int i = random.nextInt(3); i > 0; i--) {
            text.append(' ').append(oneOf(3) ? redirection(depth) : word(depth));
        }
        return text.toString();
    }

    private String command(int depth) {
        compounds--;
        if (depth == 0 || compounds < 0 || !oneOf(3)) {
            return simple(depth);
        }
        String compound = (oneOf(6) ? "fn() " + blank() : "") + compound(depth - 1);
        return compound + (oneOf(5) ? " " + redirection(depth) : "");
    }

    private String compound(int depth) {
        switch (random.nextInt(6)) {
            case 0:
                return "( " + list(depth) + ")";
            case 1:
                return "{ " + list(depth) + separator() + "}";
            case 2:
                String more = oneOf(2) ? "elif " + list(depth) + separator() + "then " + list(depth) + separator() : "";
                String last = oneOf(2) ? "else " + list(depth) + separator() : "";
                return "if " + list(depth) + separator() + "then " + list(depth) + separator() + more + last + "fi";
            case 3:
                return some("while ", "until ") + list(depth) + separator() + "do " + list(depth) + separator() + "done";
            case 4:
                String words = oneOf(2) ? blank() + "in " + word(0) + " " + word(depth) + (oneOf(2) ? ";" + blank() : newline()) : oneOf(2) ? "; " : newline();
                return "for x" + words + "do " + list(depth) + separator() + "done";
            default:
                String first = some("", "(") + word(depth) + "|" + word(depth) + ")" + blank() + (oneOf(2) ? list(depth) + blank() : "") + ";;";
                return "case " + word(depth) + blank() + "in" + blank() + first + blank() + "(esac) " + list(depth) + separator() + "esac";
        }
    }

    private String list(int depth) {
        StringBuilder text = new StringBuilder();
        int n = 1 + random.nextInt(2);
        for (int i = 0; i < n; i++) {
            text.append(i > 0 ? separator() : "").append(oneOf(6) ? "! " : "").append(command(depth));
            if (oneOf(2)) {
                text.append(some(" | ", " && ", " || ")).append(oneOf(3) ? newline() : "").append(command(depth));
            }
        }
        return text.toString();
    }

    private String script() {
        return list(3) + newline();
    }

    /** A script of the grammar, or one in which a few signs were changed. */
    private String nearlyScript() {
        String text = script();
        if (oneOf(2) && text.length() > 3) {
            int at = random.nextInt(text.length() - 1);
            text = text.substring(0, at) + some("", "(", ")", "{", "}", "`", "$", "\"", "'", "\\", "\n", ";", "&", "|", "<", ">", "#") + text.substring(Math.min(text.length(), at + random.nextInt(4)));
        }
        return text;
    }

    // ---- texts that go deep

    private String deep() {
        String[][] ways = {{"{ ", "; }"}, {"( ", " )"}, {"x=$(", ")"}, {"echo ${x-", "}"}, {"echo \"${x-", "}\""}, {"if a; then ", "; fi"}, {"while a; do ", "; done"},
            {"case a in b) ", ";; esac"}, {"f() { ", "; }"}, {"echo $((", "))"}, {"echo \"$(", ")\""}, {"for x in a; do ", "; done"}, {"cat <<E; { ", "; }"}, {"cat <<'E'; { ", "; }"}};
        StringBuilder text = new StringBuilder();
        StringBuilder behind = new StringBuilder();
        int n = 34 + random.nextInt(10);
        int mostly = random.nextInt(ways.length);
        for (int i = 0; i < n; i++) {
            String[] way = ways[oneOf(12) ? random.nextInt(ways.length) : mostly];
            text.append(way[0]).append(oneOf(30) ? "cat <<E\n" + some("${x}", "$(a)", "${a-${b-c}}") + "\nE\n" : "");
            behind.insert(0, oneOf(20) ? some("\nE\n", "\n${x}\nE\n") : "").insert(0, way[1]);
        }
        return text + some("a", "${x}", "$((1))", "$(b)", "`c`", "cat <<E") + behind + "\n" + some("${x}", "${a-${b-$(c)}}") + "\nE\n$(a)\nE\nE\n";
    }

    // ---- the comparison

    private void compare(String text, int names, int left) {
        Session s = new Session();
        SecondReader second = new SecondReader();
        for (int i = 0; i < names; i++) {
            String name = some(NAMES);
            String alias = some(ALIASES) + (oneOf(4) ? some(ALIASES) : "");
            s.put(2, name, alias);
            second.aliases.put(name, alias);
        }
        if (left > 0) {
            String comment = "#" + "x".repeat(39983 - left);
            for (int at = 0; at < comment.length(); at += 9000) {
                String part = "#" + comment.substring(at + 1, Math.min(comment.length(), at + 9000));
                s.read(part);
                second.read(part);
            }
        }
        String due = second.read(text);
        int fault = s.read(text);
        String got = fault + " " + s.shell.count(17) + " " + s.shell.count(14) + " " + (fault == 0 ? s.print() : "");
        Session.due(second.aliases + " " + text, got, due);
        boolean within = names > 0 && (text.contains("$(") || text.contains("`") || second.aliases.toString().matches("(?s).*[$`].*"));
        if (fault == 0 && left == 0 && !within) {
            againstItself(s);
        }
    }

    /** What the script does, but for SOURCE: it is stopped before that takes long. */
    private static String ran(Session s) {
        int work = s.shell.count(15);
        StringBuilder all = new StringBuilder().append(s.shell.run(200));
        for (int what = 1; what <= 13; what++) {
            all.append(' ').append(s.shell.count(what));
        }
        all.append(' ').append(s.shell.count(15) - work).append(' ');
        return all.append(s.bytes(1, s.shell.count(2))).append('|').append(s.bytes(2, s.shell.count(3))).toString();
    }

    /** Without aliases a print is read as the same tree, which does the same. */
    private static void againstItself(Session s) {
        String print = s.print();
        int commands = s.shell.count(17);
        String did = ran(s);
        boolean spent = s.shell.count(16) == 1;
        boolean aliases = s.shell.count(8) > 0;
        s.shell.reset();
        Session.due("the print is read: " + print, s.read(print), 0);
        Session.due("the print of its print", s.print(), print);
        Session.due("commands of the print: " + print, s.shell.count(17), commands);
        if (!spent && !aliases) {
            Session.due("what the print does: " + print, ran(s), did);
        }
    }

    public static void main(String[] args) {
        int times = args.length > 0 ? Integer.parseInt(args[0]) : 1;
        for (int i = 0; i < 2500 * times && Session.wrong < 5; i++) {
            ManyTextsTest t = new ManyTextsTest(i);
            t.compare(t.pieces(t.oneOf(6) ? 40 : 16), 0, 0);
            t.compare(t.pieces(12), 1 + i % 8, 0);
            t.compare(t.nearlyScript(), i % 3 == 0 ? 2 : 0, 0);
            t.compare(t.deep(), 0, 0);
            t.compare(i % 2 == 0 ? t.pieces(20) : t.script(), i % 5, i % 10 == 0 ? 1 + t.random.nextInt(300) : 0);
        }
        Session.end();
    }
}
