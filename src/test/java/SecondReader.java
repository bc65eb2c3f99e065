import java.util.ArrayList;
import java.util.Arrays;
import java.util.HashMap;
import java.util.HashSet;
import java.util.List;
import java.util.Map;
import java.util.Set;

/**
 * The reader and the print once more, for ManyTextsTest: by recursion, with tokens from one function that replaces
 * aliases, and bodies of here-documents copied line by line. It shares nothing with the class but the document.
 */
final class SecondReader {
    private static final Set<String> RESERVED = new HashSet<>(Arrays.asList("!", "{", "}", "case", "do", "done", "elif", "else", "esac", "fi", "for", "if", "in",
        "then", "until", "while"));
    private static final List<String> LONG = Arrays.asList("&&", "||", ";;", "<<-", "<<", ">>", "<&", ">&");

    /** Where reading ends ahead of the text's end. */
    private static final class Fault extends RuntimeException {
        private static final long serialVersionUID = 1;
        final int number;
        final int line;

        Fault(int number, int line) {
            super(null, null, false, false);
            this.number = number;
            this.line = line;
        }
    }

    /** A text with the place where it is read; what is read comes to the words that are open in it. */
    private static final class Text {
        final String signs;
        final Text under;
        int at;
        int line = 1;
        // Of a body: the line of each sign.
        List<Integer> lines;
        String alias;
        int within;
        final List<StringBuilder> open = new ArrayList<>();

        Text(String signs, Text under) {
            this.signs = signs;
            this.under = under;
            within = under == null ? 0 : under.within;
        }

        int lineHere() {
            return lines == null ? line : lines.get(Math.min(at, lines.size() - 1));
        }
    }

    private static final class Word {
        final StringBuilder told = new StringBuilder();
        final StringBuilder signs = new StringBuilder();
        boolean quoted;
        boolean parts;

        boolean isPlain() {
            return !quoted && !parts;
        }

        boolean is(String text) {
            return isPlain() && signs.toString().equals(text);
        }
    }

    /** A word, an operator, or (with neither) the end. */
    private static final class Token {
        Word word;
        String operator;
        boolean number;
        boolean follows;
        int line;
        Text text;

        boolean is(String sought) {
            return sought.equals(operator);
        }

        boolean isWord() {
            return word != null && !number;
        }

        boolean isReserved(String sought) {
            return isWord() && word.is(sought);
        }

        boolean isReserved() {
            return isWord() && word.isPlain() && RESERVED.contains(word.signs.toString());
        }

        boolean isRedirection() {
            return number || operator != null && (operator.startsWith("<") || operator.startsWith(">"));
        }

        boolean isEnd() {
            return word == null && operator == null;
        }
    }

    /** A redirection; with a delimiter: a here-document. */
    private static final class Redirection {
        String told;
        String delimiter;
        boolean quoted;
        boolean withoutTabs;
        int depth;
        String body;
    }

    private static final class Command {
        String kind;
        String name;
        String link = ";";
        boolean not;
        boolean background;
        boolean in;
        boolean hasElse;
        Command body;
        final List<Object> elements = new ArrayList<>();
        final List<String> heads = new ArrayList<>();
        final List<List<String>> patterns = new ArrayList<>();
        final List<List<Command>> lists = new ArrayList<>();
    }

    /** A script that is being read: its text, and the here-documents that wait. */
    private static final class Script {
        final Text text;
        List<Redirection> waiting = new ArrayList<>();

        Script(Text text) {
            this.text = text;
        }
    }

    final Map<String, String> aliases = new HashMap<>();
    private int source;
    private int commands;
    private int substitutions;
    private Text in;
    private Script script;
    private Token ahead;
    private Token closer;
    private StringBuilder out;
    private List<Redirection> lineEnd;

    /** What a TextShell would answer: read's answer, commands, SOURCE, and the print. */
    String read(String text) {
        commands = 0;
        substitutions = 0;
        ahead = null;
        try {
            begin(text.length());
            in = new Text(withNewline(text), null);
            script = new Script(in);
            List<Command> list = list("text", 0);
            out = new StringBuilder();
            lineEnd = new ArrayList<>();
            show(list);
            return "0 " + commands + " " + source + " " + out;
        } catch (Fault f) {
            return f.number + 8 * f.line + " -1 " + source + " ";
        }
    }

    private static String withNewline(String text) {
        return text.endsWith("\n") ? text : text + "\n";
    }

    private void begin(int bytes) {
        if (source + 16 + bytes > 40000) {
            throw new Fault(6, 0);
        }
        source += 16 + bytes;
    }

    private static int deeper(int depth, int line) {
        if (depth >= 40) {
            throw new Fault(4, line);
        }
        return depth + 1;
    }

    // ---- signs

    private int raw() {
        return in.at < in.signs.length() ? in.signs.charAt(in.at) : -1;
    }

    /** The next sign, where a \ quotes. */
    private int sign() {
        while (in.signs.startsWith("\\\n", in.at)) {
            pass(false);
            pass(false);
        }
        return raw();
    }

    private void pass(boolean told) {
        char c = in.signs.charAt(in.at);
        in.at++;
        in.line += c == '\n' ? 1 : 0;
        for (StringBuilder word : in.open) {
            word.append(told ? String.valueOf(c) : "");
        }
    }

    private char take() {
        char c = (char) raw();
        pass(true);
        return c;
    }

    private boolean takes(int c) {
        if (sign() != c) {
            return false;
        }
        pass(true);
        return true;
    }

    private Fault tooEarly() {
        return new Fault(2, in.lineHere());
    }

    private static boolean beginsName(int c) {
        return c == '_' || c < 128 && Character.isLetter(c);
    }

    private static boolean isDigit(int c) {
        return c >= '0' && c <= '9';
    }

    private static boolean isName(String text) {
        return text.matches("[A-Za-z_][A-Za-z_0-9]*");
    }

    private static boolean isSpecial(int c) {
        return c >= 0 && "@*#?-$".indexOf(c) >= 0;
    }

    // ---- tokens

    private Token token(int depth) {
        Token t = new Token();
        skipBlanks(t);
        t.line = in.lineHere();
        t.text = in;
        int c = sign();
        if (c == -1) {
            return t;
        }
        if ("\n&;|<>()".indexOf(c) >= 0) {
            t.operator = String.valueOf(take());
            while (c != '\n' && sign() != -1 && LONG.contains(t.operator + (char) sign())) {
                t.operator += take();
            }
            return t;
        }
        Text text = in;
        t.word = new Word();
        text.open.add(t.word.told);
        while (sign() != -1 && " \t\n&;|<>()".indexOf(sign()) < 0) {
            bare(t.word, depth);
        }
        text.open.remove(text.open.size() - 1);
        boolean digit = t.word.isPlain() && t.word.signs.length() == 1 && isDigit(t.word.signs.charAt(0));
        t.number = digit && (sign() == '<' || sign() == '>');
        return t;
    }

    private void skipBlanks(Token t) {
        while (true) {
            int c = sign();
            if (c == ' ' || c == '\t') {
                take();
            } else if (c == '#') {
                while (raw() != -1 && raw() != '\n') {
                    take();
                }
            } else if (c == -1 && in.alias != null && in != script.text) {
                t.follows |= in.signs.endsWith(" ") || in.signs.endsWith("\t");
                in = in.under;
            } else {
                return;
            }
        }
    }

    /** The token that stands here; in the place of an alias the first one of its text. */
    private Token next(boolean couldBeName, boolean canBegin, int depth) {
        if (ahead != null) {
            Token kept = ahead;
            ahead = null;
            return kept;
        }
        Token t = token(depth);
        while (t.isWord() && replaced(t, couldBeName, canBegin)) {
            t = token(depth);
        }
        return t;
    }

    private boolean replaced(Token t, boolean couldBeName, boolean canBegin) {
        String name = t.word.signs.toString();
        boolean isName = couldBeName && !isAssignment(t.word) && !(canBegin && t.isReserved());
        boolean may = isName || t.follows && !t.isReserved();
        if (!may || !t.word.isPlain() || !aliases.containsKey(name) || in.within >= 10) {
            return false;
        }
        for (Text text = in; text != null; text = text.under) {
            if (name.equals(text.alias)) {
                return false;
            }
        }
        begin(aliases.get(name).length());
        in = new Text(aliases.get(name), in);
        in.alias = name;
        in.within++;
        in.line = t.line;
        return true;
    }

    private static boolean isAssignment(Word w) {
        int end = w.told.indexOf("=");
        return end > 0 && isName(w.told.substring(0, end));
    }

    private Token next(int depth) {
        return next(false, false, depth);
    }

    // ---- parts of words

    private void bare(Word w, int depth) {
        int c = sign();
        if (c == -1) {
            throw tooEarly();
        }
        if (c == '\\') {
            take();
            w.quoted = true;
            w.signs.append(takeSome());
        } else if (c == '\'') {
            take();
            w.quoted = true;
            for (char d = takeSome(); d != '\''; d = takeSome()) {
                w.signs.append(d);
            }
        } else if (c == '"') {
            quotes(w, depth);
        } else if (c == '$') {
            dollar(w, depth, false);
        } else if (c == '`') {
            ticks(w, depth, false);
        } else {
            w.signs.append(take());
        }
    }

    /** A sign that must be there. */
    private char takeSome() {
        if (raw() == -1) {
            throw tooEarly();
        }
        return take();
    }

    private void quotes(Word w, int depth) {
        take();
        w.quoted = true;
        while (sign() != '"') {
            quoted(w, depth, false);
        }
        take();
    }

    /** A sign or a part as within ".." ; in braces: in w of a ${ . */
    private void quoted(Word w, int depth, boolean braces) {
        int c = sign();
        if (c == -1) {
            throw tooEarly();
        }
        if (c == '\\') {
            take();
            boolean quotes = raw() != -1 && ("$`\"\\".indexOf(raw()) >= 0 || braces && raw() == '}');
            w.signs.append(quotes ? take() : '\\');
        } else if (c == '$') {
            dollar(w, depth, true);
        } else if (c == '`') {
            ticks(w, depth, true);
        } else if (c == '"' && braces) {
            quotes(w, depth);
        } else {
            w.signs.append(take());
        }
    }

    private void dollar(Word w, int depth, boolean quotes) {
        int line = in.lineHere();
        take();
        int c = sign();
        w.parts |= c == '{' || c == '(' || isDigit(c) || isSpecial(c) || beginsName(c);
        if (c == '{') {
            int within = deeper(depth, line);
            take();
            braces(within, quotes, line);
        } else if (c == '(') {
            take();
            boolean arithmetic = sign() == '(';
            int within = deeper(depth, line);
            if (arithmetic) {
                arithmetic(within);
            } else {
                substitution(new Script(in), "$(", within);
            }
        } else if (isDigit(c) || isSpecial(c)) {
            take();
        } else if (beginsName(c)) {
            parameter();
        } else {
            w.signs.append('$');
        }
    }

    private void arithmetic(int depth) {
        Word w = new Word();
        int open = 0;
        take();
        while (true) {
            if (takes('(')) {
                open++;
            } else if (!takes(')')) {
                quoted(w, depth, false);
            } else if (open > 0) {
                open--;
            } else if (takes(')')) {
                return;
            }
        }
    }

    /** The parameter that is spelled here, or an empty text. */
    private String parameter() {
        StringBuilder name = new StringBuilder();
        if (isSpecial(sign())) {
            name.append(take());
        } else if (isDigit(sign())) {
            while (isDigit(sign())) {
                name.append(take());
            }
        } else if (beginsName(sign())) {
            while (beginsName(sign()) || isDigit(sign())) {
                name.append(take());
            }
        }
        return name.toString();
    }

    /** Behind ${ : the three forms, each tried from the same place. */
    private void braces(int depth, boolean quotes, int line) {
        String name = parameter();
        if (!name.isEmpty() && takes('}')) {
            return;
        }
        if (name.equals("#")) {
            int at = in.at;
            int atLine = in.line;
            List<Integer> lengths = new ArrayList<>();
            for (StringBuilder word : in.open) {
                lengths.add(word.length());
            }
            boolean is = !parameter().isEmpty();
            if (is && takes('}')) {
                return;
            }
            if (is && sign() == -1 && "-?#".indexOf(in.signs.charAt(at)) < 0) {
                throw tooEarly();
            }
            in.at = at;
            in.line = atLine;
            for (int i = 0; i < lengths.size(); i++) {
                in.open.get(i).setLength(lengths.get(i));
            }
        }
        String operator = name.isEmpty() ? "" : operator(name.equals("@") || name.equals("*"));
        if (operator.isEmpty()) {
            throw sign() == -1 ? tooEarly() : new Fault(3, line);
        }
        boolean asQuoted = quotes && !operator.startsWith("%") && !operator.startsWith("#");
        Word w = new Word();
        while (sign() != '}') {
            if (asQuoted) {
                quoted(w, depth, true);
            } else {
                bare(w, depth);
            }
        }
        take();
    }

    private String operator(boolean all) {
        String colon = takes(':') ? ":" : "";
        int c = sign();
        if (c != -1 && "-=?+".indexOf(c) >= 0) {
            return colon + take();
        }
        if (colon.isEmpty() && !all && (c == '%' || c == '#')) {
            take();
            return (char) c + (takes(c) ? "2" : "1");
        }
        return "";
    }

    private void substitution(Script inner, String kind, int depth) {
        Script outer = script;
        Token kept = ahead;
        ahead = null;
        script = inner;
        substitutions++;
        list(kind, depth);
        substitutions--;
        script = outer;
        ahead = kept;
    }

    private void ticks(Word w, int depth, boolean quotes) {
        w.parts = true;
        int within = deeper(depth, in.lineHere());
        take();
        StringBuilder text = new StringBuilder();
        int bytes = 0;
        for (char c = takeSome(); c != '`'; c = takeSome()) {
            bytes++;
            if (c == '\\' && raw() != -1 && ("`\\$".indexOf(raw()) >= 0 || quotes && raw() == '"')) {
                c = take();
                bytes++;
            }
            text.append(c);
        }
        begin(bytes);
        Text around = in;
        in = new Text(withNewline(text.toString()), around);
        substitution(new Script(in), "text", within);
        in = around;
    }

    // ---- here-documents

    private void newline() {
        List<Redirection> waiting = script.waiting;
        script.waiting = new ArrayList<>();
        for (Redirection r : waiting) {
            body(r);
        }
    }

    private void body(Redirection r) {
        StringBuilder body = new StringBuilder();
        List<Integer> lines = new ArrayList<>();
        while (true) {
            StringBuilder line = new StringBuilder();
            List<Integer> numbers = new ArrayList<>();
            int first = in.lineHere();
            joinedLine(r, line, numbers);
            int tabs = 0;
            while (r.withoutTabs && tabs < line.length() && line.charAt(tabs) == '\t') {
                tabs++;
            }
            if (line.substring(tabs).equals(r.delimiter)) {
                lines.add(first);
                break;
            }
            body.append(line.substring(tabs)).append('\n');
            lines.addAll(numbers.subList(tabs, numbers.size()));
        }
        r.body = body.toString();
        if (!r.quoted) {
            Text around = in;
            in = new Text(r.body, around);
            in.lines = lines;
            Word w = new Word();
            while (sign() != -1) {
                quoted(w, r.depth, false);
            }
            in = around;
        }
    }

    /** A line, and the number of the line in which each of its signs and its end stand. */
    private void joinedLine(Redirection r, StringBuilder line, List<Integer> numbers) {
        while (true) {
            int end = in.signs.indexOf('\n', in.at);
            if (end < 0) {
                in.at = in.signs.length();
                throw tooEarly();
            }
            int slashes = 0;
            while (end - slashes > in.at && in.signs.charAt(end - slashes - 1) == '\\') {
                slashes++;
            }
            boolean joined = !r.quoted && slashes % 2 == 1;
            while (in.at < (joined ? end - 1 : end)) {
                numbers.add(in.lineHere());
                line.append(take());
            }
            if (!joined) {
                numbers.add(in.lineHere());
                take();
                return;
            }
            pass(false);
            pass(false);
        }
    }

    // ---- grammar

    private static Fault wrong(Token t) {
        return new Fault(t.isEnd() ? 2 : 1, t.line);
    }

    /** A list up to what closes it, which is the closer then. */
    private List<Command> list(String kind, int depth) {
        List<Command> all = new ArrayList<>();
        boolean must = false;
        boolean not = false;
        boolean piped = false;
        Command start = null;
        while (true) {
            Token t = next(true, true, depth);
            if (t.is("\n") && !not) {
                newline();
            } else if (!must && !not && closes(t, kind, all, true)) {
                closer = t;
                return all;
            } else if (t.isReserved("!") && !not && !piped) {
                not = true;
            } else {
                Command c = command(t, depth);
                c.not = not;
                all.add(c);
                start = start == null ? c : start;
                t = next(depth);
                must = t.is("|") || t.is("&&") || t.is("||");
                not = false;
                piped = t.is("|");
                if (must) {
                    c.link = t.operator;
                } else if (t.is("&") || t.is(";") || t.is("\n")) {
                    start.background = t.is("&");
                    start = null;
                    if (t.is("\n")) {
                        newline();
                    }
                } else if (closes(t, kind, all, !c.kind.equals("simple"))) {
                    closer = t;
                    return all;
                } else {
                    throw wrong(t);
                }
            }
        }
    }

    private boolean closes(Token t, String kind, List<Command> all, boolean words) {
        switch (kind) {
            case "text":
                return t.isEnd() && script.waiting.isEmpty();
            case "$(":
                return t.is(")") && t.text == script.text && script.waiting.isEmpty();
            case "case":
                return t.is(";;") || words && t.isReserved("esac");
            case "(":
                return t.is(")") && !all.isEmpty();
            default:
                boolean closes = false;
                for (String word : kind.split(" ")) {
                    closes |= t.isReserved(word);
                }
                return closes && words && !all.isEmpty();
        }
    }

    private Command command(Token t, int depth) {
        if (t.is("(") || t.isReserved()) {
            return behind(compound(t, depth), depth);
        }
        if (!t.isWord() && !t.isRedirection()) {
            throw wrong(t);
        }
        Command c = started("simple");
        boolean word = false;
        while (t.isWord() || t.isRedirection()) {
            if (t.isRedirection()) {
                c.elements.add(redirection(t, depth));
            } else {
                word |= !isAssignment(t.word);
                c.elements.add(t.word);
            }
            t = next(!word, false, depth);
        }
        if (!t.is("(")) {
            ahead = t;
            return c;
        }
        Object only = c.elements.get(0);
        if (c.elements.size() != 1 || !(only instanceof Word) || !((Word) only).isPlain() || !isName(((Word) only).signs.toString())) {
            throw wrong(t);
        }
        c.kind = "function";
        c.name = ((Word) only).signs.toString();
        c.elements.clear();
        t = next(depth);
        if (!t.is(")")) {
            throw wrong(t);
        }
        c.body = behind(compound(afterNewlines(next(depth), depth), depth), depth);
        return c;
    }

    private Command started(String kind) {
        Command c = new Command();
        c.kind = kind;
        commands += substitutions == 0 ? 1 : 0;
        return c;
    }

    private Token afterNewlines(Token first, int depth) {
        Token t = first;
        while (t.is("\n")) {
            newline();
            t = next(depth);
        }
        return t;
    }

    private Command behind(Command c, int depth) {
        Token t = next(depth);
        while (t.isRedirection()) {
            c.elements.add(redirection(t, depth));
            t = next(depth);
        }
        ahead = t;
        return c;
    }

    private Redirection redirection(Token first, int depth) {
        Redirection r = new Redirection();
        String number = first.number ? first.word.signs.toString() : "";
        String operator = first.number ? next(depth).operator : first.operator;
        Token t = next(depth);
        if (!t.isWord()) {
            throw wrong(t);
        }
        r.told = number + operator + " " + t.word.told;
        if (operator.startsWith("<<")) {
            if (t.word.parts) {
                throw new Fault(5, t.line);
            }
            r.delimiter = t.word.signs.toString();
            r.quoted = t.word.quoted;
            r.withoutTabs = operator.equals("<<-");
            r.depth = depth;
            script.waiting.add(r);
        }
        return r;
    }

    private Command compound(Token t, int around) {
        String kind = t.is("(") ? "(" : t.isReserved() ? t.word.signs.toString() : "";
        if (!Arrays.asList("(", "{", "if", "while", "until", "for", "case").contains(kind)) {
            throw wrong(t);
        }
        int depth = deeper(around, t.line);
        Command c = started(kind);
        switch (kind) {
            case "(":
            case "{":
                c.lists.add(list(kind.equals("(") ? "(" : "}", depth));
                break;
            case "if":
                branches(c, depth);
                break;
            case "for":
                forLoop(c, depth);
                break;
            case "case":
                choice(c, depth);
                break;
            default:
                c.lists.add(list("do", depth));
                c.lists.add(list("done", depth));
        }
        return c;
    }

    private void branches(Command c, int depth) {
        boolean more = true;
        while (more) {
            c.lists.add(list("then", depth));
            c.lists.add(list("elif else fi", depth));
            more = closer.isReserved("elif");
        }
        if (closer.isReserved("else")) {
            c.hasElse = true;
            c.lists.add(list("fi", depth));
        }
    }

    private void forLoop(Command c, int depth) {
        Token t = next(depth);
        if (!t.isWord() || !t.word.isPlain() || !isName(t.word.signs.toString())) {
            throw wrong(t);
        }
        c.name = t.word.signs.toString();
        t = next(depth);
        boolean lines = t.is("\n");
        t = afterNewlines(t, depth);
        if (t.isReserved("in")) {
            c.in = true;
            t = next(depth);
            while (t.isWord()) {
                c.heads.add(t.word.told.toString());
                t = next(depth);
            }
            if (!t.is(";") && !t.is("\n")) {
                throw wrong(t);
            }
            t = afterNewlines(t.is(";") ? next(depth) : t, depth);
        } else if (t.is(";") && !lines) {
            t = afterNewlines(next(depth), depth);
        }
        if (!t.isReserved("do")) {
            throw wrong(t);
        }
        c.lists.add(list("done", depth));
    }

    private void choice(Command c, int depth) {
        c.heads.add(word(next(depth)));
        Token t = afterNewlines(next(depth), depth);
        if (!t.isReserved("in")) {
            throw wrong(t);
        }
        boolean more = true;
        while (more) {
            t = afterNewlines(next(depth), depth);
            if (t.isReserved("esac")) {
                return;
            }
            List<String> patterns = new ArrayList<>();
            patterns.add(word(t.is("(") ? next(depth) : t));
            for (t = next(depth); t.is("|"); t = next(depth)) {
                patterns.add(word(next(depth)));
            }
            if (!t.is(")")) {
                throw wrong(t);
            }
            c.patterns.add(patterns);
            c.lists.add(list("case", depth));
            more = closer.is(";;");
        }
    }

    private static String word(Token t) {
        if (!t.isWord()) {
            throw wrong(t);
        }
        return t.word.told.toString();
    }

    // ---- the print

    private void endLine() {
        out.append('\n');
        List<Redirection> bodies = lineEnd;
        lineEnd = new ArrayList<>();
        for (Redirection r : bodies) {
            out.append(r.body).append(r.delimiter).append('\n');
        }
    }

    private void show(String keyword, List<Command> list) {
        out.append(keyword);
        endLine();
        show(list);
    }

    private void show(List<Command> list) {
        Command start = null;
        for (Command c : list) {
            start = start == null ? c : start;
            out.append(c.not ? "! " : "");
            show(c);
            if (c.link.equals(";")) {
                out.append(start.background ? " &" : "");
                endLine();
                start = null;
            } else {
                out.append(' ').append(c.link).append(' ');
            }
        }
    }

    private void show(Command c) {
        switch (c.kind) {
            case "simple":
                break;
            case "function":
                out.append(c.name).append("() ");
                show(c.body);
                break;
            case "(":
            case "{":
                show(c.kind, c.lists.get(0));
                out.append(c.kind.equals("(") ? ")" : "}");
                break;
            case "if":
                for (int i = 0; i < c.lists.size(); i++) {
                    boolean last = c.hasElse && i == c.lists.size() - 1;
                    show(last ? "else" : i % 2 == 1 ? "then" : i == 0 ? "if" : "elif", c.lists.get(i));
                }
                out.append("fi");
                break;
            case "for":
                out.append("for ").append(c.name).append(c.in ? " in" : "");
                for (String word : c.heads) {
                    out.append(' ').append(word);
                }
                endLine();
                show("do", c.lists.get(0));
                out.append("done");
                break;
            case "case":
                out.append("case ").append(c.heads.get(0)).append(" in");
                endLine();
                for (int i = 0; i < c.patterns.size(); i++) {
                    show("(" + String.join(" | ", c.patterns.get(i)) + ")", c.lists.get(i));
                    out.append(";;");
                    endLine();
                }
                out.append("esac");
                break;
            default:
                show(c.kind, c.lists.get(0));
                show("do", c.lists.get(1));
                out.append("done");
        }
        String between = c.kind.equals("simple") ? "" : " ";
        for (Object element : c.elements) {
            out.append(between);
            between = " ";
            if (element instanceof Redirection) {
                Redirection r = (Redirection) element;
                out.append(r.told);
                if (r.delimiter != null) {
                    lineEnd.add(r);
                }
            } else {
                out.append(((Word) element).told);
            }
        }
    }
}
