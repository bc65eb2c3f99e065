/**
 * A shell: scripts are read into a tree, printed from it again, and run over files held in memory.
 * The document ../shared/DOC.md says what it does; README.md says how the parts of this file hang together.
 */
public final class TextShell {
    public static final int NONE = -1;

    private static final int MOST_TAPE = 16384;
    private static final int MOST_TEXT = 16384;
    private static final int MOST_WRITTEN = 65536;

    // Kinds of a tree. Those up to CASE that are no SIMPLE are also the kinds of the reader's frames.
    private static final int SIMPLE = 1;
    private static final int PAREN = 2;
    private static final int BRACE = 3;
    private static final int IF = 4;
    private static final int WHILE = 5;
    private static final int UNTIL = 6;
    private static final int FOR = 7;
    private static final int CASE = 8;
    private static final int FUNCTION = 9;
    private static final int CLAUSE = 10;
    private static final int WORD = 11;
    private static final int ASSIGNMENT = 12;
    private static final int REDIRECTION = 13;
    private static final int BODY = 14;
    private static final int SCRIPT = 15;

    // Tokens; some of them also tell a redirection's operator and what links two commands.
    private static final int NEWLINE = 1;
    private static final int AND = 2;
    private static final int OR = 3;
    private static final int DOUBLE_SEMI = 4;
    private static final int SEMI = 5;
    private static final int AMP = 6;
    private static final int PIPE = 7;
    private static final int OPEN = 8;
    private static final int CLOSE = 9;
    private static final int LESS = 10;
    private static final int GREAT = 11;
    private static final int APPEND = 12;
    private static final int DUP_IN = 13;
    private static final int DUP_OUT = 14;
    private static final int HERE = 15;
    private static final int HERE_TABS = 16;
    private static final int WORD_TOKEN = 17;
    private static final int NUMBER_TOKEN = 18;
    private static final int END = 19;

    // A word's code: signs (with QUOTED or not), MARK for quotes that may hold nothing, and parts.
    // What a word comes to is rows of the same items; there SPLIT says that a sign came of a part
    // outside of quotes, and BOUNDARY parts the parameters that $@ gives.
    private static final int SIGN = 255;
    private static final int QUOTED = 1 << 8;
    private static final int SPLIT = 1 << 9;
    private static final int BOUNDARY = 1 << 10;
    private static final int MARK = 1 << 11;
    private static final int TILDE = 1 << 12;
    private static final int PARAMETER = 1 << 13;
    private static final int ARITHMETIC = 1 << 14;
    private static final int SUBSTITUTION = 1 << 15;
    private static final int IN_QUOTES = 1 << 16;
    private static final int COLON = 1 << 17;
    private static final int FORM = 20;

    // Forms of a parameter, at bit FORM of its item.
    private static final int PLAIN = 0;
    private static final int MINUS = 1;
    private static final int EQUALS = 2;
    private static final int QUESTION = 3;
    private static final int PLUS = 4;
    private static final int CUT_END = 5;
    private static final int CUT_LONG_END = 6;
    private static final int CUT_START = 7;
    private static final int CUT_LONG_START = 8;
    private static final int LENGTH = 9;

    // Parameters: names have their index, others a number below 0.
    private static final int ALL_AT = -1;
    private static final int ALL_STAR = -2;
    private static final int HOW_MANY = -3;
    private static final int LAST_STATUS = -4;
    private static final int OPTIONS = -5;
    private static final int ONE = -6;
    private static final int NO_ID = -7;
    private static final int POSITION = -10;
    private static final int FAR_POSITION = 1000000;

    // Options, in the order in which $- tells them.
    private static final int OPTION_E = 1;
    private static final int OPTION_F = 2;
    private static final int OPTION_U = 4;

    // Reserved words.
    private static final int R_BANG = 1;
    private static final int R_LEFT = 2;
    private static final int R_RIGHT = 3;
    private static final int R_CASE = 4;
    private static final int R_DO = 5;
    private static final int R_DONE = 6;
    private static final int R_ELIF = 7;
    private static final int R_ELSE = 8;
    private static final int R_ESAC = 9;
    private static final int R_FI = 10;
    private static final int R_FOR = 11;
    private static final int R_IF = 12;
    private static final int R_IN = 13;
    private static final int R_THEN = 14;
    private static final int R_UNTIL = 15;
    private static final int R_WHILE = 16;

    // Special commands, then the others.
    private static final int C_COLON = 1;
    private static final int C_DOT = 2;
    private static final int C_EVAL = 3;
    private static final int C_BREAK = 4;
    private static final int C_CONTINUE = 5;
    private static final int C_RETURN = 6;
    private static final int C_EXIT = 7;
    private static final int C_SET = 8;
    private static final int C_SHIFT = 9;
    private static final int C_UNSET = 10;
    private static final int C_READONLY = 11;
    private static final int C_EXPORT = 12;
    private static final int LAST_SPECIAL = 12;
    private static final int C_TRUE = 13;
    private static final int C_FALSE = 14;
    private static final int C_ECHO = 15;
    private static final int C_PRINTF = 16;
    private static final int C_TEST = 17;
    private static final int C_BRACKET = 18;
    private static final int C_READ = 19;
    private static final int C_CD = 20;
    private static final int C_PWD = 21;
    private static final int C_ALIAS = 22;
    private static final int C_UNALIAS = 23;
    private static final int C_CAT = 24;
    private static final int C_WC = 25;
    private static final int C_HEAD = 26;
    private static final int C_TAIL = 27;
    private static final int C_SORT = 28;
    private static final int C_UNIQ = 29;
    private static final int C_TR = 30;
    private static final int C_CUT = 31;
    private static final int C_GREP = 32;
    private static final int C_SEQ = 33;
    private static final int C_LS = 34;
    private static final int C_MKDIR = 35;
    private static final int C_RM = 36;
    private static final int C_TOUCH = 37;
    private static final int C_CP = 38;
    private static final int C_MV = 39;

    private final Row tape = new Row(64);
    private final Row printed = new Row(64);
    private final Row answer = new Row(64);
    private final Memory memory = new Memory();
    private final Reader reader = new Reader(memory);
    private final Shell shell = new Shell(memory, reader);
    private Tree script;
    private int commands;
    private boolean hasPrint;
    private boolean hasAnswer;

    public TextShell() {
        Expander expander = new Expander(memory, reader, shell);
        shell.expander = expander;
        shell.tools = new Tools(memory, shell, expander);
    }

    /** Twenty bytes come behind the tape. */
    public int feed(int a, int b, int c, int d, int e) {
        if (tape.length + 20 > MOST_TAPE) {
            return NONE;
        }
        feedFour(a);
        feedFour(b);
        feedFour(c);
        feedFour(d);
        feedFour(e);
        return tape.length;
    }

    private void feedFour(int four) {
        tape.add(four >>> 24);
        tape.add(four >>> 16 & 255);
        tape.add(four >>> 8 & 255);
        tape.add(four & 255);
    }

    /** The tape's first n bytes are read as a script. */
    public int read(int n) throws IllegalArgumentException {
        if (!holds(n, 0)) {
            throw new IllegalArgumentException("no such bytes of a text");
        }
        Row text = tape.part(0, n);
        tape.length = 0;
        script = null;
        hasPrint = false;
        if (!reader.parse(text)) {
            return reader.fault + 8 * reader.faultLine;
        }
        script = reader.script;
        commands = reader.commands;
        return 0;
    }

    /** The script is printed. */
    public int print() throws IllegalStateException {
        if (script == null) {
            throw new IllegalStateException("no script");
        }
        printed.length = 0;
        Tree.showList(script.body, printed, new Tree(SCRIPT));
        hasPrint = true;
        return printed.length;
    }

    /** The script runs. */
    public int run(int most) throws IllegalStateException, IllegalArgumentException {
        if (script == null) {
            throw new IllegalStateException("no script");
        }
        if (most < 0 || most > 100000) {
            throw new IllegalArgumentException("no such bound");
        }
        shell.begin(most);
        if (!shell.isSpent()) {
            shell.list(script.body, false);
        }
        return shell.end();
    }

    /** The tape's first n bytes become the input. */
    public void input(int n) throws IllegalArgumentException {
        if (!holds(n, 0)) {
            throw new IllegalArgumentException("no such bytes of a text");
        }
        Stream in = shell.base[0];
        in.at = 0;
        in.data.length = 0;
        in.data.addPart(tape, 0, n);
        tape.length = 0;
    }

    /** A variable, a file, an alias or a directory is made. */
    public boolean put(int kind, int n, int m) throws IllegalArgumentException {
        if (kind < 0 || kind > 3 || !holds(n, m)) {
            throw new IllegalArgumentException("no such kind, or no such bytes of a text");
        }
        Row name = tape.part(0, n);
        Row value = tape.part(n, n + m);
        tape.length = 0;
        if (kind == 0) {
            return name.isName() && memory.assign(memory.name(name), value);
        }
        if (kind == 2) {
            return putAlias(name, value);
        }
        if (name.at(0) != '/') {
            return false;
        }
        return kind == 1 ? memory.root.store(name, value) : memory.root.make(name, true) != null;
    }

    private boolean putAlias(Row name, Row text) {
        if (!name.isName() || !text.isAliasText()) {
            return false;
        }
        memory.name(name).alias = text;
        return true;
    }

    /** What a name has becomes the answer. */
    public int ask(int kind, int n) throws IllegalArgumentException {
        if (kind < 0 || kind > 4 || !holds(n, 0)) {
            throw new IllegalArgumentException("no such kind, or no such bytes of a text");
        }
        Row name = tape.part(0, n);
        tape.length = 0;
        answer.length = 0;
        hasAnswer = kind == 1 || kind == 4 ? tellFile(kind, name) : tellName(kind, name);
        return hasAnswer ? answer.length : NONE;
    }

    private boolean tellName(int kind, Row text) {
        Name name = memory.find(text);
        if (name == null) {
            return false;
        }
        if (kind == 3) {
            if (name.function == null) {
                return false;
            }
            Tree.showFunction(name.function, answer);
            return true;
        }
        Row value = kind == 0 ? name.value : name.alias;
        if (value == null) {
            return false;
        }
        answer.addRow(value);
        return true;
    }

    private boolean tellFile(int kind, Row path) {
        Node node = path.at(0) == '/' ? memory.root.find(path) : null;
        if (node == null || node.isDirectory() != (kind == 4)) {
            return false;
        }
        if (node.data != null) {
            answer.addRow(node.data);
            return true;
        }
        for (Node child = node.first; child != null; child = child.next) {
            answer.addRow(child.name);
            answer.add('\n');
        }
        return true;
    }

    /** Byte i of the print, of what was written to 1 or 2, or of the answer. */
    public int byteAt(int which, int i) {
        switch (which) {
            case 0:
                return hasPrint ? printed.at(i) : NONE;
            case 1:
            case 2:
                return shell.base[which].data.at(i);
            case 3:
                return hasAnswer ? answer.at(i) : NONE;
            default:
                return NONE;
        }
    }

    /** What was written goes. */
    public int clear() {
        Row out = shell.base[1].data;
        Row err = shell.base[2].data;
        int bytes = out.length + err.length;
        out.length = 0;
        err.length = 0;
        return bytes;
    }

    /** All is as at first, but SOURCE, WORK and the tape. */
    public void reset() {
        clear();
        script = null;
        hasPrint = false;
        hasAnswer = false;
        shell.base[0].data.length = 0;
        shell.base[0].at = 0;
        shell.status = 0;
        shell.simples = 0;
        memory.forget();
    }

    /** How many there are of what. */
    public int count(int what) {
        switch (what) {
            case 0:
                return tape.length;
            case 1:
                return shell.status;
            case 2:
                return shell.base[1].data.length;
            case 3:
                return shell.base[2].data.length;
            case 4:
                return shell.base[0].data.length - shell.base[0].at;
            case 5:
            case 6:
            case 7:
            case 8:
                return memory.howMany(what);
            case 9:
                return memory.parameters;
            case 10:
                return memory.root.files;
            case 11:
                return memory.root.directories;
            case 12:
                return memory.root.bytes;
            case 13:
                return shell.simples;
            case 14:
                return reader.source;
            case 15:
                return shell.work;
            case 16:
                return shell.work >= Shell.MOST_WORK ? 1 : 0;
            case 17:
                return script == null ? NONE : commands;
            case 18:
                return hasPrint ? printed.length : NONE;
            default:
                return NONE;
        }
    }

    /** Whether the tape begins with n and m bytes, all of them bytes of a text. */
    private boolean holds(int n, int m) {
        if (n < 0 || m < 0 || n > tape.length || m > tape.length - n) {
            return false;
        }
        for (int i = 0; i < n + m; i++) {
            if (!isTextSign(tape.at(i))) {
                return false;
            }
        }
        return true;
    }

    private static boolean isTextSign(int c) {
        return c == 9 || c == 10 || c >= 32 && c <= 126;
    }

    private static boolean isDigit(int c) {
        return c >= '0' && c <= '9';
    }

    private static boolean beginsName(int c) {
        return c >= 'a' && c <= 'z' || c >= 'A' && c <= 'Z' || c == '_';
    }

    private static boolean isNameSign(int c) {
        return c >= 'a' && c <= 'z' || c >= 'A' && c <= 'Z' || c == '_' || c >= '0' && c <= '9';
    }

    /** A row of signs: a value that stays as it is, or a text that grows. */
    private static final class Row {
        private char[] signs;
        private int length;

        private Row(int room) {
            signs = new char[room > 0 ? room : 1];
        }

        private int at(int i) {
            return i >= 0 && i < length && i < signs.length ? signs[i] : NONE;
        }

        private void change(int i, int sign) {
            if (i >= 0 && i < length && i < signs.length) {
                signs[i] = (char) sign;
            }
        }

        private void add(int sign) {
            if (length >= signs.length) {
                char[] wider = new char[signs.length * 2];
                System.arraycopy(signs, 0, wider, 0, signs.length);
                signs = wider;
            }
            if (length >= 0 && length < signs.length) {
                signs[length] = (char) sign;
                length++;
            }
        }

        private void addRow(Row other) {
            for (int i = 0; i < other.length; i++) {
                add(other.at(i));
            }
        }

        private void addPart(Row other, int from, int to) {
            for (int i = from; i < to; i++) {
                add(other.at(i));
            }
        }

        private void addText(String text) {
            for (int i = 0; i < text.length(); i++) {
                add(text.charAt(i));
            }
        }

        /** The digits are made from the end of a number below 0: the least long has no opposite. */
        private void addNumber(long number) {
            if (number < 0) {
                add('-');
            }
            long rest = number < 0 ? number : -number;
            int digits = 1;
            for (long r = rest / 10; r != 0; r /= 10) {
                digits++;
            }
            int end = length + digits;
            for (int i = 0; i < digits; i++) {
                add('0');
            }
            for (int i = 1; i <= digits; i++) {
                change(end - i, '0' - (int) (rest % 10));
                rest /= 10;
            }
        }

        private Row part(int from, int to) {
            Row part = new Row(to - from);
            for (int i = from; i < to && i >= 0 && i < signs.length && i - from < part.signs.length; i++) {
                part.signs[i - from] = signs[i];
                part.length++;
            }
            return part;
        }

        /** The beginning of this row: the signs are those of both. */
        private Row upTo(int end) {
            Row beginning = new Row(0);
            beginning.signs = signs;
            beginning.length = Math.max(0, Math.min(end, length));
            return beginning;
        }

        private boolean same(Row other) {
            if (other == null || other.length != length) {
                return false;
            }
            for (int i = 0; i < length && i < signs.length && i < other.signs.length; i++) {
                if (signs[i] != other.signs[i]) {
                    return false;
                }
            }
            return true;
        }

        /** Whether a part of another row that begins there is this one. */
        private boolean isPart(Row other, int from) {
            for (int i = 0; i < length && i < signs.length; i++) {
                int j = from + i;
                if (j < 0 || j >= other.length || j >= other.signs.length || signs[i] != other.signs[j]) {
                    return false;
                }
            }
            return true;
        }

        private boolean is(String text) {
            if (text.length() != length) {
                return false;
            }
            for (int i = 0; i < length; i++) {
                if (at(i) != text.charAt(i)) {
                    return false;
                }
            }
            return true;
        }

        /** Below 0, 0 or above 0, by the order of bytes. */
        private int order(Row other) {
            for (int i = 0; i < length && i < other.length && i < signs.length && i < other.signs.length; i++) {
                if (signs[i] != other.signs[i]) {
                    return signs[i] - other.signs[i];
                }
            }
            return length - other.length;
        }

        /** Where the sign stands first from a place on and ahead of another one, or that one. */
        private int place(int sign, int from, int to) {
            for (int i = Math.max(0, from); i < to && i < signs.length; i++) {
                if (signs[i] == sign) {
                    return i;
                }
            }
            return to;
        }

        private boolean isName() {
            return isNameUpTo(length);
        }

        private boolean isNameUpTo(int end) {
            if (end < 1 || !beginsName(at(0))) {
                return false;
            }
            for (int i = 1; i < end; i++) {
                if (!isNameSign(at(i))) {
                    return false;
                }
            }
            return true;
        }

        private boolean isText() {
            for (int i = 0; i < length; i++) {
                if (!isTextSign(at(i))) {
                    return false;
                }
            }
            return true;
        }

        private boolean isAliasText() {
            return isText() && place('\n', 0, length) == length;
        }

        /** Whether it is perhaps - and 1 .. 18 digits. */
        private boolean isNumber() {
            int from = at(0) == '-' ? 1 : 0;
            if (length - from < 1 || length - from > 18) {
                return false;
            }
            for (int i = from; i < length; i++) {
                if (!isDigit(at(i))) {
                    return false;
                }
            }
            return true;
        }

        private long number() {
            int from = at(0) == '-' ? 1 : 0;
            long number = 0;
            for (int i = from; i < length; i++) {
                number = number * 10 + (at(i) - '0');
            }
            return from == 1 ? -number : number;
        }

        private boolean isNullDevice() {
            return is("/dev/null");
        }
    }

    /** A name with all that it has: variable, function, alias, or being a reserved word or a command. */
    private static final class Name {
        private final Row text;
        private final int index;
        // Of a name in the undo log: the name whose earlier state it holds.
        private Name of;
        private Name next;
        private Row value;
        private boolean readOnly;
        private Tree function;
        private Row alias;
        private int command;
        private int reserved;

        private Name(Row text, int index) {
            this.text = text;
            this.index = index;
        }

        private void copyState(Name from) {
            value = from.value;
            readOnly = from.readOnly;
            function = from.function;
            alias = from.alias;
        }
    }

    /** What a subshell has of its own: names, parameters, options, the directory; and the log that undoes it. */
    private static final class Memory {
        private static final int BUCKETS = 256;
        private static final int DEEPEST = 64;
        private static final int SAVED = 8;
        private final Name[] buckets = new Name[BUCKETS];
        // That of the name that was sought last.
        private int bucket;
        private Name[] names = new Name[128];
        private int size;
        private Name[] log = new Name[16];
        private int logged;
        private int subshells;
        private final int[] saves = new int[DEEPEST * SAVED];
        private final Node[] places = new Node[DEEPEST];
        // The parameters lie in a row of rows from base on; what lies ahead of floor belongs to callers.
        private Row[] pool = new Row[16];
        private int base;
        private int parameters;
        private int floor;
        private int options;
        // How many loops, and how many functions and files of . , are open in this subshell.
        private int loops;
        private int calls;
        private final Node root = new Node(new Row(1), null, true);
        private Node here = root;
        private final Name separators;
        private final Name home;
        // A row without signs: never changed.
        private final Row nothing = new Row(0);

        private Memory() {
            separators = name(row("IFS"));
            home = name(row("HOME"));
            tellReserved();
            tellCommands();
        }

        private static Row row(String text) {
            Row row = new Row(text.length());
            row.addText(text);
            return row;
        }

        private void reserve(String text, int reserved) {
            name(row(text)).reserved = reserved;
        }

        private void tellReserved() {
            reserve("!", R_BANG);
            reserve("{", R_LEFT);
            reserve("}", R_RIGHT);
            reserve("case", R_CASE);
            reserve("do", R_DO);
            reserve("done", R_DONE);
            reserve("elif", R_ELIF);
            reserve("else", R_ELSE);
            reserve("esac", R_ESAC);
            reserve("fi", R_FI);
            reserve("for", R_FOR);
            reserve("if", R_IF);
            reserve("in", R_IN);
            reserve("then", R_THEN);
            reserve("until", R_UNTIL);
            reserve("while", R_WHILE);
        }

        private void command(String text, int command) {
            name(row(text)).command = command;
        }

        private void tellCommands() {
            command(":", C_COLON);
            command(".", C_DOT);
            command("eval", C_EVAL);
            command("break", C_BREAK);
            command("continue", C_CONTINUE);
            command("return", C_RETURN);
            command("exit", C_EXIT);
            command("set", C_SET);
            command("shift", C_SHIFT);
            command("unset", C_UNSET);
            command("readonly", C_READONLY);
            command("export", C_EXPORT);
            command("true", C_TRUE);
            command("false", C_FALSE);
            command("echo", C_ECHO);
            command("printf", C_PRINTF);
            command("test", C_TEST);
            command("[", C_BRACKET);
            command("read", C_READ);
            command("cd", C_CD);
            command("pwd", C_PWD);
            command("alias", C_ALIAS);
            command("unalias", C_UNALIAS);
            command("cat", C_CAT);
            command("wc", C_WC);
            command("head", C_HEAD);
            command("tail", C_TAIL);
            command("sort", C_SORT);
            command("uniq", C_UNIQ);
            command("tr", C_TR);
            command("cut", C_CUT);
            command("grep", C_GREP);
            command("seq", C_SEQ);
            command("ls", C_LS);
            command("mkdir", C_MKDIR);
            command("rm", C_RM);
            command("touch", C_TOUCH);
            command("cp", C_CP);
            command("mv", C_MV);
        }

        private Name find(Row text) {
            int hash = 0;
            for (int i = 0; i < text.length && i < text.signs.length; i++) {
                hash = hash * 31 + text.signs[i];
            }
            bucket = hash & BUCKETS - 1;
            for (Name n = buckets[bucket]; n != null; n = n.next) {
                if (n.text.same(text)) {
                    return n;
                }
            }
            return null;
        }

        /** The name of a text, made if there is none yet. */
        private Name name(Row text) {
            Name found = find(text);
            if (found != null) {
                return found;
            }
            if (size >= names.length) {
                Name[] more = new Name[names.length * 2];
                for (int i = 0; i < names.length && i < more.length; i++) {
                    more[i] = names[i];
                }
                names = more;
            }
            Name made = new Name(text.part(0, text.length), size);
            made.next = buckets[bucket];
            buckets[bucket] = made;
            names[size] = made;
            size++;
            return made;
        }

        private Name named(int index) {
            return index >= 0 && index < size && index < names.length ? names[index] : null;
        }

        /** A variable's new value: false if it is read-only. */
        private boolean assign(Name name, Row value) {
            if (name.readOnly) {
                return false;
            }
            remember(name);
            name.value = value;
            return true;
        }

        /** Within a subshell: what a name has now is kept, to be undone. */
        private void remember(Name name) {
            if (subshells == 0) {
                return;
            }
            if (logged >= log.length) {
                Name[] more = new Name[log.length * 2];
                for (int i = 0; i < log.length && i < more.length; i++) {
                    more[i] = log[i];
                }
                log = more;
            }
            Name entry = log[logged];
            if (entry == null) {
                entry = new Name(name.text, NONE);
                log[logged] = entry;
            }
            entry.of = name;
            entry.copyState(name);
            logged++;
        }

        /** A subshell begins. */
        private void enter(int status) {
            int at = subshells * SAVED;
            if (subshells < places.length && at + SAVED <= saves.length) {
                places[subshells] = here;
                saves[at] = logged;
                saves[at + 1] = base;
                saves[at + 2] = parameters;
                saves[at + 3] = floor;
                saves[at + 4] = options;
                saves[at + 5] = loops;
                saves[at + 6] = calls;
                saves[at + 7] = status;
            }
            subshells++;
            floor = Math.max(floor, base + parameters);
            loops = 0;
            calls = 0;
        }

        /** A subshell ends: all that it changed is undone. The status from before it. */
        private int leave() {
            if (subshells <= 0 || subshells > places.length) {
                return 0;
            }
            subshells--;
            int at = subshells * SAVED;
            while (logged > saves[at] && logged > 0 && logged <= log.length) {
                logged--;
                Name entry = log[logged];
                if (entry != null && entry.of != null) {
                    entry.of.copyState(entry);
                }
            }
            here = places[subshells];
            base = saves[at + 1];
            parameters = saves[at + 2];
            floor = saves[at + 3];
            options = saves[at + 4];
            loops = saves[at + 5];
            calls = saves[at + 6];
            return saves[at + 7];
        }

        /** The parameters are rows of others from a place on. */
        private void tellParameters(Row[] from, int first, int n) {
            if (floor + n > pool.length) {
                Row[] more = new Row[2 * (floor + n)];
                for (int i = 0; i < pool.length && i < more.length; i++) {
                    more[i] = pool[i];
                }
                pool = more;
            }
            base = floor;
            parameters = n;
            for (int i = 0; i < n && first + i < from.length && base + i < pool.length; i++) {
                pool[base + i] = from[first + i];
            }
        }

        /** Parameter i (from 1 on), or null. */
        private Row parameter(int i) {
            int at = base + i - 1;
            return i >= 1 && i <= parameters && at >= 0 && at < pool.length ? pool[at] : null;
        }

        private boolean has(int option) {
            return (options & option) != 0;
        }

        private int howMany(int what) {
            int found = 0;
            for (int i = 0; i < size; i++) {
                Name n = names[i];
                boolean counts = what == 5 ? n.value != null
                    : what == 6 ? n.readOnly
                    : what == 7 ? n.function != null : n.alias != null;
                found += counts ? 1 : 0;
            }
            return found;
        }

        private void forget() {
            for (int i = 0; i < size; i++) {
                names[i].value = null;
                names[i].readOnly = false;
                names[i].function = null;
                names[i].alias = null;
            }
            base = 0;
            parameters = 0;
            floor = 0;
            options = 0;
            root.empty();
            here = root;
        }
    }

    /** A file (with data) or a directory. */
    private static final class Node {
        private static final int MOST_NODES = 300;
        private static final int MOST_BYTES = 65536;
        private static final int MOST_FILE = 16384;
        private static final int MOST_NAME = 60;
        private Row name;
        private Node parent;
        private Node next;
        private Node first;
        private final Node root;
        private final Row data;
        private boolean gone;
        // The part of a pattern of path names for which it was looked at last, and whether it fitted.
        private int part;
        private boolean fits;
        // Of the root: what there is in all.
        private int files;
        private int directories = 1;
        private int bytes;

        private Node(Row name, Node parent, boolean directory) {
            this.name = name;
            this.parent = parent;
            root = parent == null ? this : parent.root;
            data = directory ? null : new Row(16);
        }

        private boolean isDirectory() {
            return data == null;
        }

        /** The root has nothing any more. */
        private void empty() {
            first = null;
            files = 0;
            directories = 1;
            bytes = 0;
        }

        /** What a path leads to from here, or null. */
        private Node find(Row path) {
            if (path.length == 0) {
                return null;
            }
            Node at = path.at(0) == '/' ? root : this;
            int i = 0;
            while (i < path.length && at != null) {
                if (path.at(i) == '/') {
                    i++;
                    at = at.isDirectory() ? at : null;
                } else {
                    int end = path.place('/', i, path.length);
                    at = at.step(path, i, end);
                    i = end;
                }
            }
            return at;
        }

        /** What the name that stands in a row from a place on leads to. */
        private Node step(Row row, int from, int to) {
            if (data != null) {
                return null;
            }
            boolean dot = to > from && row.at(from) == '.';
            if (dot && to - from == 1) {
                return this;
            }
            if (dot && to - from == 2 && row.at(from + 1) == '.') {
                return parent == null ? this : parent;
            }
            for (Node n = first; n != null; n = n.next) {
                if (n.name.length == to - from && n.name.isPart(row, from)) {
                    return n;
                }
            }
            return null;
        }

        /** Where the last name of a path begins, if something could be made there; else NONE. */
        private static int lastName(Row path) {
            int start = path.length;
            while (start > 0 && path.at(start - 1) != '/') {
                start--;
            }
            int length = path.length - start;
            boolean dots = path.at(start) == '.' && (length == 1 || length == 2 && path.at(start + 1) == '.');
            return length < 1 || length > MOST_NAME || dots ? NONE : start;
        }

        /** The directory in which the path's last name stands or could be made, or null. */
        private Node place(Row path) {
            int start = lastName(path);
            if (start < 0) {
                return null;
            }
            Node up = start == 0 ? this : find(path.part(0, start));
            return up != null && up.isDirectory() ? up : null;
        }

        /** A new file or directory, or null if it can't be made. */
        private Node make(Row path, boolean directory) {
            Node up = place(path);
            int start = lastName(path);
            if (up == null || start < 0 || root.files + root.directories >= MOST_NODES) {
                return null;
            }
            if (up.step(path, start, path.length) != null) {
                return null;
            }
            Node made = new Node(path.part(start, path.length), up, directory);
            up.insert(made);
            if (directory) {
                root.directories++;
            } else {
                root.files++;
            }
            return made;
        }

        /** The children stand in the order of bytes. */
        private void insert(Node made) {
            Node ahead = null;
            Node behind = first;
            while (behind != null && behind.name.order(made.name) < 0) {
                ahead = behind;
                behind = behind.next;
            }
            made.next = behind;
            made.parent = this;
            if (ahead == null) {
                first = made;
            } else {
                ahead.next = made;
            }
        }

        private void takeOut() {
            if (parent == null) {
                return;
            }
            if (parent.first == this) {
                parent.first = next;
                return;
            }
            for (Node n = parent.first; n != null; n = n.next) {
                if (n.next == this) {
                    n.next = next;
                    return;
                }
            }
        }

        private void remove() {
            takeOut();
            emptyFile();
            gone = true;
            root.files--;
        }

        private void moveTo(Node up, Row newName) {
            takeOut();
            name = newName;
            up.insert(this);
        }

        private void emptyFile() {
            if (data != null) {
                root.bytes -= data.length;
                data.length = 0;
            }
        }

        /** A byte comes to the end of a file; without room it is lost. */
        private void append(int sign) {
            if (data != null && !gone && data.length < MOST_FILE && root.bytes < MOST_BYTES) {
                data.add(sign);
                root.bytes++;
            }
        }

        /** A file is made, or anew, if all of it has room. */
        private boolean store(Row path, Row value) {
            Node file = find(path);
            if (file != null && file.isDirectory()) {
                return false;
            }
            int old = file == null ? 0 : file.data.length;
            if (value.length > MOST_FILE || root.bytes - old + value.length > MOST_BYTES) {
                return false;
            }
            Node made = file == null ? make(path, false) : file;
            if (made == null) {
                return false;
            }
            made.emptyFile();
            for (int i = 0; i < value.length; i++) {
                made.append(value.at(i));
            }
            return true;
        }
    }

    /** A row that is read from a place on: a text for the reader, or what an open number stands for. */
    private static final class Stream {
        private final Row data;
        private final Node file;
        private final boolean reading;
        private final int most;
        private int at;
        // Of a text: the line, the text in which it stands, the alias that it is the text of, how many of those.
        private int line;
        private Stream under;
        private Name alias;
        private int aliases;

        private Stream(Row data, Node file, boolean reading, int most) {
            this.data = data;
            this.file = file;
            this.reading = reading;
            this.most = most;
        }

        private static Stream text(Row data, int line, Stream under, Name alias) {
            Stream text = new Stream(data, null, true, 0);
            text.line = line;
            text.under = under;
            text.alias = alias;
            text.aliases = (under == null ? 0 : under.aliases) + (alias == null ? 0 : 1);
            return text;
        }

        /** The next byte, or NONE at the end. */
        private int pull() {
            if (!reading || data == null || file != null && file.gone || at >= data.length) {
                return NONE;
            }
            at++;
            return data.at(at - 1);
        }

        /** A byte is written, or lost. */
        private void push(int sign) {
            if (reading) {
                return;
            }
            if (file != null) {
                file.append(sign);
            } else if (data != null && data.length < most) {
                data.add(sign);
            }
        }
    }

    /** A part of a script: a command, a word, a redirection, a clause. */
    private static final class Tree {
        private int kind;
        private Tree next;
        // Of a command: what links it to the next one, and whether ! stands ahead of its pipeline.
        private int link = SEMI;
        private boolean not;
        // Of the first command of an and-or: whether & stands behind it.
        private boolean background;
        // Of a for: whether it has words of its own.
        private boolean in;
        // Of a redirection: the number told, or NONE; of an assignment: where its value begins; of a body: how
        // many things its redirection is within.
        private int number = NONE;
        // Elements of a simple command; redirections of a compound.
        private Tree words;
        // Words of a for; the word of a case; patterns of a clause.
        private Tree head;
        private Tree test;
        private Tree body;
        private Tree rest;
        private Name name;
        private int[] code;
        private Row told;

        private Tree(int kind) {
            this.kind = kind;
        }

        /** Prints a list, each and-or on a line of its own; line waits for the bodies of here-documents. */
        private static void showList(Tree first, Row out, Tree line) {
            Tree start = first;
            for (Tree c = first; c != null; c = c.next) {
                if (c.not) {
                    out.addText("! ");
                }
                showCommand(c, out, line);
                if (c.link == PIPE) {
                    out.addText(" | ");
                } else if (c.link == AND) {
                    out.addText(" && ");
                } else if (c.link == OR) {
                    out.addText(" || ");
                } else {
                    if (start != null && start.background) {
                        out.addText(" &");
                    }
                    endLine(out, line);
                    start = c.next;
                }
            }
        }

        private static void showFunction(Tree function, Row out) {
            Tree line = new Tree(SCRIPT);
            showCommand(function, out, line);
            endLine(out, line);
            out.length = Math.max(0, out.length - 1);
        }

        private static void showCommand(Tree c, Row out, Tree line) {
            switch (c.kind) {
                case SIMPLE:
                    showWords(c.words, "", " ", out, line);
                    return;
                case FUNCTION:
                    if (c.name != null && c.body != null) {
                        out.addRow(c.name.text);
                        out.addText("() ");
                        showCommand(c.body, out, line);
                    }
                    return;
                case PAREN:
                    showPart("(", c.body, out, line);
                    out.add(')');
                    break;
                case BRACE:
                    showPart("{", c.body, out, line);
                    out.add('}');
                    break;
                case IF:
                    showIf(c, out, line);
                    break;
                case CASE:
                    showCase(c, out, line);
                    break;
                default:
                    showLoop(c, out, line);
            }
            showWords(c.words, " ", " ", out, line);
        }

        private static void showPart(String keyword, Tree list, Row out, Tree line) {
            out.addText(keyword);
            endLine(out, line);
            showList(list, out, line);
        }

        private static void showIf(Tree c, Row out, Tree line) {
            for (Tree clause = c; clause != null; clause = clause.rest) {
                if (clause.test == null) {
                    showPart("else", clause.body, out, line);
                } else {
                    showPart(clause == c ? "if" : "elif", clause.test, out, line);
                    showPart("then", clause.body, out, line);
                }
            }
            out.addText("fi");
        }

        private static void showLoop(Tree c, Row out, Tree line) {
            if (c.kind == FOR) {
                out.addText("for ");
                if (c.name != null) {
                    out.addRow(c.name.text);
                }
                if (c.in) {
                    out.addText(" in");
                    showWords(c.head, " ", " ", out, line);
                }
                endLine(out, line);
            } else {
                showPart(c.kind == WHILE ? "while" : "until", c.test, out, line);
            }
            showPart("do", c.body, out, line);
            out.addText("done");
        }

        private static void showCase(Tree c, Row out, Tree line) {
            showWords(c.head, "case ", "", out, line);
            out.addText(" in");
            endLine(out, line);
            for (Tree item = c.rest; item != null; item = item.rest) {
                out.add('(');
                showWords(item.head, "", " | ", out, line);
                showPart(")", item.body, out, line);
                out.addText(";;");
                endLine(out, line);
            }
            out.addText("esac");
        }

        private static void showWords(Tree first, String ahead, String between, Row out, Tree line) {
            for (Tree w = first; w != null; w = w.next) {
                out.addText(w == first ? ahead : between);
                if (w.kind == REDIRECTION) {
                    showOperator(w, out);
                    if (w.body != null) {
                        Tree last = line;
                        while (last.rest != null) {
                            last = last.rest;
                        }
                        last.rest = w;
                    }
                }
                if (w.told != null) {
                    out.addRow(w.told);
                }
            }
        }

        private static void showOperator(Tree w, Row out) {
            if (w.number >= 0) {
                out.addNumber(w.number);
            }
            switch (w.link) {
                case LESS:
                    out.addText("< ");
                    break;
                case GREAT:
                    out.addText("> ");
                    break;
                case APPEND:
                    out.addText(">> ");
                    break;
                case DUP_IN:
                    out.addText("<& ");
                    break;
                case DUP_OUT:
                    out.addText(">& ");
                    break;
                case HERE:
                    out.addText("<< ");
                    break;
                default:
                    out.addText("<<- ");
            }
        }

        /** Ends a line; the bodies that wait for it follow. */
        private static void endLine(Row out, Tree line) {
            out.add('\n');
            Tree w = line.rest;
            line.rest = null;
            while (w != null) {
                if (w.body != null && w.body.told != null) {
                    out.addRow(w.body.told);
                }
                addDelimiter(w, out);
                out.add('\n');
                Tree done = w;
                w = w.rest;
                done.rest = null;
            }
        }

        /** A here-document's word without its quotes. */
        private static void addDelimiter(Tree w, Row out) {
            if (w.code == null) {
                return;
            }
            for (int i = 0; i < w.code.length; i++) {
                if (w.code[i] != MARK) {
                    out.add(w.code[i] & SIGN);
                }
            }
        }
    }

    /** What the reader is within: a text, a compound, a substitution, a word, quotes, a body. */
    private static final class Frame {
        private int kind;
        private int state;
        private int section;
        private int line;
        private int flags;
        // Of a text or substitution: what it is read from.
        private Stream source;
        // The text or substitution in which it stands.
        private Frame script;
        private Tree command;
        private Tree clause;
        private Tree first;
        private Tree last;
        private Tree start;
        private Tree tail;
        // Here-documents that wait for their bodies.
        private Tree waiting;
        // The number and the operator of a redirection that waits for its word, and what then goes on.
        private int number;
        private int operator;
        private int back;
        // Of a word: where it begins in its text; of an arithmetic: how many ( are open.
        private int from;
        // Where the code of a word begins, or the place of the length of a part's code.
        private int mark;

        private void set(int kind, int state, Frame script) {
            this.kind = kind;
            this.state = state;
            this.script = script;
            section = 0;
            line = 0;
            flags = 0;
            source = null;
            command = null;
            clause = null;
            first = null;
            last = null;
            start = null;
            tail = null;
            waiting = null;
            number = NONE;
            operator = 0;
            back = 0;
            from = 0;
            mark = 0;
        }

        private boolean has(int flag) {
            return (flags & flag) != 0;
        }
    }

    /** Reads a text into a tree. What it is within lies on a stack of frames, so that no call calls itself. */
    private static final class Reader {
        private static final int MOST_SOURCE = 40000;
        private static final int MOST_NESTED = 40;
        private static final int MOST_ALIASES = 10;
        private static final int STEPS = 10000000;

        // Newlines that vanished are kept as the first two, so that lines can still be counted; tabs that went
        // from a body as the third: a word in which the here-document stands is printed with them.
        private static final int GONE = 0;
        private static final int GONE_LINE = 1;
        private static final int GONE_TAB = 2;

        private static final int TOO_EARLY = 2;
        private static final int NO_PARAMETER = 3;
        private static final int TOO_DEEP = 4;
        private static final int NO_DELIMITER = 5;
        private static final int NO_ROOM = 6;

        // Kinds of frames beside those of compounds.
        private static final int F_TEXT = 20;
        private static final int F_SUBSTITUTION = 21;
        private static final int F_TICKS = 22;
        private static final int F_BODIES = 23;
        private static final int F_WORD = 24;
        private static final int F_QUOTES = 25;
        private static final int F_PARAMETER = 26;
        private static final int F_ARITHMETIC = 27;
        private static final int F_BODY = 28;

        private static final int DUE_TOKEN = 1;
        private static final int DUE_DOLLAR = 2;

        private static final int BEGIN = 0;
        private static final int IN_SIMPLE = 1;
        private static final int BEHIND = 2;
        private static final int TARGET = 3;
        private static final int FUNCTION_CLOSE = 4;
        private static final int FUNCTION_BODY = 5;
        private static final int FOR_NAME = 6;
        private static final int FOR_IN = 7;
        private static final int FOR_WORDS = 8;
        private static final int FOR_DO = 9;
        private static final int CASE_WORD = 10;
        private static final int CASE_IN = 11;
        private static final int CASE_ITEM = 12;
        private static final int CASE_PATTERN = 13;
        private static final int CASE_BAR = 14;

        // Sections of a compound.
        private static final int IN_BODY = 0;
        private static final int IN_TEST = 1;
        private static final int IN_ELSE = 2;

        // Flags of a frame: a command must come; ! stands ahead; | stands ahead; a word of the simple
        // command that is no assignment was there; the word follows an alias; within quotes.
        private static final int MUST = 1;
        private static final int BANG = 2;
        private static final int PIPED = 4;
        private static final int HAS_WORD = 8;
        private static final int FOLLOWS = 16;
        private static final int IN_DOUBLE = 32;
        private static final int LINES_BEHIND_NAME = 64;

        private final Memory memory;
        private Frame[] frames = new Frame[64];
        private int depth;
        private Stream in;
        private int[] code = new int[64];
        private int codes;
        private Tree[] scripts = new Tree[16];
        private int scriptCount;
        private final Row spelled = new Row(16);
        private int fault;
        private int faultLine;
        private int nested;
        private int inner;
        private int commands;
        private int source;
        // What is to be done ahead of the next sign: a token taken, or a part that begins with $ read.
        private int due;
        private int token;
        private int tokenLine;
        private boolean tokenFollows;
        // Which reserved word the token would be, or 0.
        private int reserved;
        private Tree word;
        private Tree script;

        private Reader(Memory memory) {
            this.memory = memory;
        }

        /** Reads a text: whether it had no fault. */
        private boolean parse(Row text) {
            fault = 0;
            faultLine = 0;
            depth = 0;
            codes = 0;
            nested = 0;
            inner = 0;
            commands = 0;
            script = null;
            if (begins(text.length)) {
                openText(text, F_TEXT, null);
            }
            due = 0;
            for (int i = 0; i < STEPS && fault == 0 && depth > 0; i++) {
                Frame f = top();
                int now = due;
                due = 0;
                if (now == DUE_TOKEN) {
                    accept(f);
                } else if (now == DUE_DOLLAR) {
                    dollar(f.has(IN_DOUBLE));
                } else if (f.kind < F_BODIES) {
                    nextToken(f);
                } else if (f.kind == F_BODIES) {
                    nextBody(f);
                } else if (f.has(IN_DOUBLE)) {
                    quotedSign(f);
                } else {
                    bareSign(f);
                }
            }
            return fault == 0 && script != null;
        }

        private Tree scriptAt(int index) {
            return index >= 0 && index < scriptCount && index < scripts.length ? scripts[index] : null;
        }

        private void fail(int fault, int line) {
            if (this.fault == 0) {
                this.fault = fault;
                faultLine = line;
            }
        }

        /** The token can't be there; the end of a text comes too early. */
        private void wrong() {
            if (token == END) {
                fail(TOO_EARLY, in.line);
            } else {
                fail(1, tokenLine);
            }
        }

        /** A text of so many bytes begins, if SOURCE has room for it. */
        private boolean begins(int bytes) {
            if (source + 16 + bytes > MOST_SOURCE) {
                fail(NO_ROOM, 0);
                return false;
            }
            source += 16 + bytes;
            return true;
        }

        /** Something begins that counts as being within one another. */
        private boolean nests(int line) {
            if (nested >= MOST_NESTED) {
                fail(TOO_DEEP, line);
                return false;
            }
            nested++;
            return true;
        }

        private Frame enter(int kind, int state, Frame script) {
            if (depth >= frames.length) {
                Frame[] more = new Frame[frames.length * 2];
                for (int i = 0; i < frames.length && i < more.length; i++) {
                    more[i] = frames[i];
                }
                frames = more;
            }
            Frame f = frames[depth];
            if (f == null) {
                f = new Frame();
                frames[depth] = f;
            }
            depth++;
            f.set(kind, state, script == null ? f : script);
            return f;
        }

        private Frame top() {
            return frames[depth > 0 ? depth - 1 : 0];
        }

        /** A text of its own begins. */
        private Frame openText(Row text, int kind, Stream under) {
            Row data = text.part(0, text.length);
            if (data.at(data.length - 1) != '\n') {
                data.add('\n');
            }
            in = Stream.text(data, 1, under, null);
            Frame f = enter(kind, BEGIN, null);
            f.source = in;
            return f;
        }

        // ---- signs ----

        /** The next sign, where a \ quotes: newlines behind it vanish. NONE at the text's end. */
        private int look() {
            Row data = in.data;
            while (in.at < data.length) {
                int c = data.at(in.at);
                if (c <= GONE_TAB) {
                    pass(c);
                } else if (c == '\\' && data.at(in.at + 1) == '\n') {
                    data.change(in.at, GONE);
                    data.change(in.at + 1, GONE_LINE);
                } else {
                    return c;
                }
            }
            return NONE;
        }

        /** The next sign, where a \ does not quote. */
        private int lookRaw() {
            while (in.at < in.data.length) {
                int c = in.data.at(in.at);
                if (c > GONE_TAB) {
                    return c;
                }
                pass(c);
            }
            return NONE;
        }

        private void pass(int c) {
            in.at++;
            if (c == '\n' || c == GONE_LINE) {
                in.line++;
            }
        }

        /** A part of the text, without newlines that vanished; with tabs that went, or without. */
        private Row told(int from, int to, boolean tabs) {
            int least = tabs ? GONE_TAB : GONE_TAB + 1;
            int length = 0;
            for (int i = from; i < to; i++) {
                length += in.data.at(i) >= least ? 1 : 0;
            }
            Row told = new Row(length);
            for (int i = from; i < to; i++) {
                int c = in.data.at(i);
                if (c >= least) {
                    told.add(c == GONE_TAB ? '\t' : c);
                }
            }
            return told;
        }

        private void emit(int item) {
            if (codes >= code.length) {
                int[] more = new int[code.length * 2];
                System.arraycopy(code, 0, more, 0, code.length);
                code = more;
            }
            code[codes] = item;
            codes++;
        }

        private void patch(int at) {
            if (at >= 0 && at < code.length) {
                code[at] = codes - at - 1;
            }
        }

        /** The code from a mark on, taken off. */
        private int[] cutCode(int mark) {
            int[] cut = new int[Math.max(0, codes - mark)];
            for (int i = 0; i < cut.length && mark + i < code.length; i++) {
                cut[i] = code[mark + i];
            }
            codes = mark;
            return cut;
        }

        // ---- tokens ----

        private void nextToken(Frame f) {
            boolean follows = skipBlanks(f.script);
            tokenLine = in.line;
            reserved = 0;
            int c = look();
            if (c == NONE) {
                token = END;
                due = DUE_TOKEN;
            } else if (endsWord(c)) {
                pass(c);
                token = operator(c);
                due = DUE_TOKEN;
            } else {
                Frame w = enter(F_WORD, 0, f.script);
                w.line = in.line;
                w.from = in.at;
                w.mark = codes;
                w.flags = follows ? FOLLOWS : 0;
            }
        }

        /** Up to the next token; whether an alias's text that ended there has a blank at its end. */
        private boolean skipBlanks(Frame script) {
            boolean follows = false;
            for (int i = 0; i < STEPS; i++) {
                int c = look();
                if (c == ' ' || c == '\t') {
                    pass(c);
                } else if (c == '#') {
                    for (int k = in.at; k < in.data.length && c != NONE && c != '\n'; k++) {
                        pass(c);
                        c = lookRaw();
                    }
                } else if (c == NONE && in.alias != null && in != script.source && in.under != null) {
                    int last = in.data.at(in.data.length - 1);
                    follows = follows || last == ' ' || last == '\t';
                    in = in.under;
                } else {
                    return follows;
                }
            }
            return follows;
        }

        private static boolean endsWord(int c) {
            switch (c) {
                case ' ':
                case '\t':
                case '\n':
                case '&':
                case ';':
                case '|':
                case '<':
                case '>':
                case '(':
                case ')':
                    return true;
                default:
                    return c == NONE;
            }
        }

        /** The longest operator that begins with c, which was passed. */
        private int operator(int c) {
            switch (c) {
                case '\n':
                    return NEWLINE;
                case '(':
                    return OPEN;
                case ')':
                    return CLOSE;
                case '&':
                    return passIf('&') ? AND : AMP;
                case '|':
                    return passIf('|') ? OR : PIPE;
                case ';':
                    return passIf(';') ? DOUBLE_SEMI : SEMI;
                case '>':
                    return passIf('>') ? APPEND : passIf('&') ? DUP_OUT : GREAT;
                default:
                    if (passIf('<')) {
                        return passIf('-') ? HERE_TABS : HERE;
                    }
                    return passIf('&') ? DUP_IN : LESS;
            }
        }

        private boolean passIf(int c) {
            if (look() != c) {
                return false;
            }
            pass(c);
            return true;
        }

        private void endWord(Frame f) {
            Tree w = new Tree(WORD);
            w.code = cutCode(f.mark);
            // A print never goes into a substitution's tree: there only names are looked at.
            w.told = inner == 0 || isPlain(w) ? told(f.from, in.at, true) : memory.nothing;
            word = w;
            tokenLine = f.line;
            tokenFollows = f.has(FOLLOWS);
            depth--;
            int next = look();
            boolean number = w.told.length == 1 && isDigit(w.told.at(0)) && (next == '<' || next == '>');
            token = number ? NUMBER_TOKEN : WORD_TOKEN;
            reserved = reservedAs(w);
            due = DUE_TOKEN;
        }

        private static boolean isPlain(Tree w) {
            for (int i = 0; i < w.code.length; i++) {
                if (w.code[i] > SIGN) {
                    return false;
                }
            }
            return true;
        }

        private static boolean isName(Tree w) {
            return isPlain(w) && w.told.isNameUpTo(w.told.length);
        }

        /** Which reserved word this would be, or 0. */
        private int reservedAs(Tree w) {
            if (w.told.length > 5 || !isPlain(w)) {
                return 0;
            }
            Name name = memory.find(w.told);
            return name == null ? 0 : name.reserved;
        }

        /** Whether the word is an alias, whose text then takes its place (or has no room). */
        private boolean replaced(boolean couldBeCommand) {
            boolean may = couldBeCommand || tokenFollows && reserved == 0;
            if (!may || in.aliases >= MOST_ALIASES || !isPlain(word)) {
                return false;
            }
            Name name = memory.find(word.told);
            if (name == null || name.alias == null) {
                return false;
            }
            for (Stream s = in; s != null; s = s.under) {
                if (s.alias == name) {
                    return false;
                }
            }
            if (begins(name.alias.length)) {
                in = Stream.text(name.alias.part(0, name.alias.length), tokenLine, in, name);
            }
            return true;
        }

        /** The token can't be there, but an alias's text may take its place. */
        private void outOfPlace() {
            if (token != WORD_TOKEN || !replaced(false)) {
                wrong();
            }
        }

        // ---- grammar ----

        private void accept(Frame f) {
            switch (f.state) {
                case BEGIN:
                    atBegin(f);
                    break;
                case IN_SIMPLE:
                    inSimple(f);
                    break;
                case BEHIND:
                    behindCompound(f);
                    break;
                case TARGET:
                    target(f);
                    break;
                case FUNCTION_CLOSE:
                    if (token == CLOSE) {
                        f.state = FUNCTION_BODY;
                    } else {
                        outOfPlace();
                    }
                    break;
                case FUNCTION_BODY:
                    functionBody(f);
                    break;
                case FOR_NAME:
                case FOR_IN:
                case FOR_WORDS:
                case FOR_DO:
                    forPart(f);
                    break;
                default:
                    casePart(f);
            }
        }

        private static boolean isRedirection(int token) {
            return token >= LESS && token <= HERE_TABS || token == NUMBER_TOKEN;
        }

        private void atBegin(Frame f) {
            if (token == WORD_TOKEN) {
                if (reserved != 0) {
                    reservedAtBegin(f);
                } else if (!replaced(true)) {
                    startCommand(f, SIMPLE);
                    f.state = IN_SIMPLE;
                    addWord(f);
                }
            } else if (isRedirection(token)) {
                startCommand(f, SIMPLE);
                f.state = IN_SIMPLE;
                redirection(f);
            } else if (token == NEWLINE && !f.has(BANG)) {
                newline(f);
            } else if (token == OPEN) {
                openCompound(f, PAREN);
            } else if ((token == CLOSE || token == DOUBLE_SEMI || token == END) && !f.has(MUST)) {
                closeByToken(f);
            } else {
                wrong();
            }
        }

        private void reservedAtBegin(Frame f) {
            int kind = compoundOf(reserved);
            if (kind != 0) {
                openCompound(f, kind);
            } else if (reserved == R_BANG) {
                if (f.has(BANG | PIPED)) {
                    wrong();
                } else {
                    f.flags |= BANG | MUST;
                }
            } else if (f.has(MUST) || !closes(f, reserved)) {
                wrong();
            } else {
                closeByWord(f);
            }
        }

        private static int compoundOf(int reserved) {
            switch (reserved) {
                case R_LEFT:
                    return BRACE;
                case R_IF:
                    return IF;
                case R_WHILE:
                    return WHILE;
                case R_UNTIL:
                    return UNTIL;
                case R_FOR:
                    return FOR;
                case R_CASE:
                    return CASE;
                default:
                    return 0;
            }
        }

        private void startCommand(Frame f, int kind) {
            Tree c = new Tree(kind);
            c.not = f.has(BANG);
            f.command = c;
            f.tail = null;
            countCommand();
        }

        private void countCommand() {
            if (inner == 0) {
                commands++;
            }
        }

        private void openCompound(Frame f, int kind) {
            if (!nests(tokenLine)) {
                return;
            }
            Tree c;
            if (f.state == FUNCTION_BODY) {
                c = new Tree(kind);
                f.command.body = c;
                f.tail = null;
                countCommand();
            } else {
                startCommand(f, kind);
                c = f.command;
            }
            f.state = BEHIND;
            Frame g = enter(kind, kind == FOR ? FOR_NAME : kind == CASE ? CASE_WORD : BEGIN, f.script);
            g.command = c;
            g.clause = c;
            g.section = kind == IF || kind == WHILE || kind == UNTIL ? IN_TEST : IN_BODY;
        }

        private void addElement(Frame f, Tree element) {
            Tree c = f.command.kind == FUNCTION ? f.command.body : f.command;
            if (f.tail == null) {
                c.words = element;
            } else {
                f.tail.next = element;
            }
            f.tail = element;
        }

        private void addHead(Frame f, Tree owner) {
            tilde(word, 0);
            if (f.tail == null) {
                owner.head = word;
            } else {
                f.tail.next = word;
            }
            f.tail = word;
        }

        /** A plain ~ at the beginning, with the end or a plain / behind it, is told as such. */
        private static void tilde(Tree w, int at) {
            int[] code = w.code;
            if (at < code.length && code[at] == '~' && (at + 1 == code.length || code[at + 1] == '/')) {
                code[at] = TILDE;
            }
        }

        /** A word comes to a simple command. */
        private void addWord(Frame f) {
            int value = f.has(HAS_WORD) ? 0 : valueOf(word);
            if (value > 0) {
                word.kind = ASSIGNMENT;
                word.number = value;
                word.name = memory.name(nameOf(word, value - 1));
            } else {
                f.flags |= HAS_WORD;
            }
            tilde(word, value);
            addElement(f, word);
        }

        private Row nameOf(Tree w, int end) {
            spelled.length = 0;
            for (int i = 0; i < end && i < w.code.length; i++) {
                spelled.add(w.code[i]);
            }
            return spelled;
        }

        /** Where the value of an assignment begins, or 0. */
        private static int valueOf(Tree w) {
            int i = 0;
            while (i < w.code.length && isNameSign(w.code[i])) {
                i++;
            }
            boolean is = i > 0 && i < w.code.length && w.code[i] == '=' && beginsName(w.code[0]);
            return is ? i + 1 : 0;
        }

        private void inSimple(Frame f) {
            if (token == WORD_TOKEN) {
                boolean could = !f.has(HAS_WORD) && valueOf(word) == 0;
                if (!replaced(could)) {
                    addWord(f);
                }
            } else if (isRedirection(token)) {
                redirection(f);
            } else if (token == OPEN) {
                Tree only = f.command.words;
                if (only == null || only.next != null || only.kind != WORD || !isName(only)) {
                    wrong();
                    return;
                }
                f.command.kind = FUNCTION;
                f.command.words = null;
                f.command.name = memory.name(only.told);
                f.state = FUNCTION_CLOSE;
            } else {
                link(f);
            }
        }

        private void behindCompound(Frame f) {
            if (token == WORD_TOKEN) {
                if (reserved != 0 && closes(f, reserved)) {
                    endCommand(f);
                    closeByWord(f);
                } else {
                    outOfPlace();
                }
            } else if (isRedirection(token)) {
                redirection(f);
            } else {
                link(f);
            }
        }

        /** A number, or an operator that waits for its word. */
        private void redirection(Frame f) {
            if (token == NUMBER_TOKEN) {
                f.number = word.told.at(0) - '0';
                return;
            }
            f.operator = token;
            f.back = f.state;
            f.state = TARGET;
        }

        private void target(Frame f) {
            if (token != WORD_TOKEN) {
                wrong();
                return;
            }
            if (replaced(false)) {
                return;
            }
            Tree r = word;
            r.kind = REDIRECTION;
            r.link = f.operator;
            r.number = f.number;
            if (f.operator == HERE || f.operator == HERE_TABS) {
                if (hasParts(r)) {
                    fail(NO_DELIMITER, tokenLine);
                    return;
                }
                // What the body is within is told by where its operator stands, not by where its lines lie.
                r.body = new Tree(BODY);
                r.body.number = nested;
                await(f.script, r);
            } else {
                tilde(r, 0);
            }
            addElement(f, r);
            f.number = NONE;
            f.state = f.back;
        }

        private static boolean hasParts(Tree w) {
            for (int i = 0; i < w.code.length; i++) {
                if (w.code[i] > MARK) {
                    return true;
                }
            }
            return false;
        }

        /** A here-document waits for its body. */
        private static void await(Frame script, Tree r) {
            Tree last = script.waiting;
            if (last == null) {
                script.waiting = r;
                return;
            }
            while (last.rest != null) {
                last = last.rest;
            }
            last.rest = r;
        }

        private void functionBody(Frame f) {
            int kind = token == OPEN ? PAREN : compoundOf(reserved);
            if (token == NEWLINE) {
                newline(f);
            } else if (kind != 0) {
                openCompound(f, kind);
            } else {
                outOfPlace();
            }
        }

        /** The command is whole: it comes to the list. */
        private void endCommand(Frame f) {
            if (f.last == null) {
                f.first = f.command;
            } else {
                f.last.next = f.command;
            }
            if (f.start == null) {
                f.start = f.command;
            }
            f.last = f.command;
            f.command = null;
            f.tail = null;
            f.flags = 0;
            f.state = BEGIN;
        }

        /** What stands behind a command. */
        private void link(Frame f) {
            endCommand(f);
            switch (token) {
                case PIPE:
                case AND:
                case OR:
                    f.last.link = token;
                    f.flags = token == PIPE ? MUST | PIPED : MUST;
                    break;
                case AMP:
                    f.start.background = true;
                    f.start = null;
                    break;
                case SEMI:
                    f.start = null;
                    break;
                case NEWLINE:
                    f.start = null;
                    newline(f);
                    break;
                default:
                    closeByToken(f);
            }
        }

        private void closeByToken(Frame f) {
            boolean isText = f.kind == F_TEXT || f.kind == F_TICKS;
            if (token == END && isText && f.waiting == null) {
                endText(f);
            } else if (token == CLOSE && f.kind == PAREN && f.first != null) {
                closeCompound(f);
            } else if (token == CLOSE && f.kind == F_SUBSTITUTION && in == f.source && f.waiting == null) {
                endText(f);
            } else if (token == DOUBLE_SEMI && f.kind == CASE) {
                f.clause.body = f.first;
                f.state = CASE_ITEM;
                f.tail = null;
            } else {
                wrong();
            }
        }

        /** Whether a reserved word ends the list of a compound. */
        private static boolean closes(Frame f, int reserved) {
            if (f.kind == CASE) {
                return reserved == R_ESAC;
            }
            if (f.first == null && f.state != BEHIND) {
                return false;
            }
            switch (f.kind) {
                case BRACE:
                    return reserved == R_RIGHT;
                case IF:
                    if (f.section == IN_TEST) {
                        return reserved == R_THEN;
                    }
                    return reserved == R_FI || f.section == IN_BODY && (reserved == R_ELIF || reserved == R_ELSE);
                case WHILE:
                case UNTIL:
                    return reserved == (f.section == IN_TEST ? R_DO : R_DONE);
                case FOR:
                    return reserved == R_DONE;
                default:
                    return false;
            }
        }

        private void closeByWord(Frame f) {
            switch (reserved) {
                case R_THEN:
                case R_DO:
                    f.clause.test = f.first;
                    startSection(f, IN_BODY);
                    break;
                case R_ELIF:
                case R_ELSE:
                    f.clause.body = f.first;
                    f.clause.rest = new Tree(CLAUSE);
                    f.clause = f.clause.rest;
                    startSection(f, reserved == R_ELIF ? IN_TEST : IN_ELSE);
                    break;
                default:
                    closeCompound(f);
            }
        }

        private static void startSection(Frame f, int section) {
            f.section = section;
            f.state = BEGIN;
            f.flags = 0;
            f.first = null;
            f.last = null;
            f.start = null;
            f.tail = null;
        }

        private void closeCompound(Frame f) {
            f.clause.body = f.first;
            nested--;
            depth--;
        }

        /** A text or a substitution ends. */
        private void endText(Frame f) {
            Tree s = new Tree(SCRIPT);
            s.body = f.first;
            depth--;
            if (f.kind == F_TEXT) {
                script = s;
                return;
            }
            if (f.kind == F_TICKS) {
                in = f.source.under;
            }
            nested--;
            inner--;
            if (scriptCount >= scripts.length) {
                Tree[] more = new Tree[scripts.length * 2];
                for (int i = 0; i < scripts.length && i < more.length; i++) {
                    more[i] = scripts[i];
                }
                scripts = more;
            }
            scripts[scriptCount] = s;
            emit(SUBSTITUTION | (f.section == IN_DOUBLE ? IN_QUOTES : 0));
            emit(scriptCount);
            scriptCount++;
        }

        private void forPart(Frame f) {
            Tree c = f.command;
            boolean isWord = token == WORD_TOKEN;
            boolean ready = f.state == FOR_DO || f.state == FOR_IN;
            if (ready && reserved == R_DO) {
                startSection(f, IN_BODY);
            } else if (f.state == FOR_IN && reserved == R_IN) {
                c.in = true;
                f.state = FOR_WORDS;
            } else if (isWord) {
                forWord(f);
            } else if (token == NEWLINE && f.state != FOR_NAME) {
                f.flags |= LINES_BEHIND_NAME;
                f.state = f.state == FOR_WORDS ? FOR_DO : f.state;
                newline(f);
            } else if (token == SEMI && (f.state == FOR_WORDS || f.state == FOR_IN && !f.has(LINES_BEHIND_NAME))) {
                f.state = FOR_DO;
            } else {
                wrong();
            }
        }

        private void forWord(Frame f) {
            if (replaced(false)) {
                return;
            }
            if (f.state == FOR_WORDS) {
                addHead(f, f.command);
            } else if (f.state == FOR_NAME && isName(word)) {
                f.command.name = memory.name(word.told);
                f.state = FOR_IN;
            } else {
                wrong();
            }
        }

        private void casePart(Frame f) {
            if (f.state == CASE_IN && reserved == R_IN) {
                f.state = CASE_ITEM;
                f.tail = null;
            } else if (f.state == CASE_ITEM && reserved == R_ESAC) {
                nested--;
                depth--;
            } else if (token == WORD_TOKEN) {
                caseWord(f);
            } else if (token == NEWLINE && (f.state == CASE_IN || f.state == CASE_ITEM)) {
                newline(f);
            } else if (token == OPEN && f.state == CASE_ITEM) {
                f.state = CASE_PATTERN;
            } else if (token == PIPE && f.state == CASE_BAR) {
                f.state = CASE_PATTERN;
            } else if (token == CLOSE && f.state == CASE_BAR) {
                startSection(f, IN_BODY);
            } else {
                wrong();
            }
        }

        private void caseWord(Frame f) {
            if (replaced(false)) {
                return;
            }
            if (f.state == CASE_WORD) {
                addHead(f, f.command);
                f.state = CASE_IN;
            } else if (f.state == CASE_ITEM || f.state == CASE_PATTERN) {
                if (f.tail == null) {
                    f.clause.rest = new Tree(CLAUSE);
                    f.clause = f.clause.rest;
                }
                addHead(f, f.clause);
                f.state = CASE_BAR;
            } else {
                wrong();
            }
        }

        // ---- bodies of here-documents ----

        /** A newline was taken: the bodies that wait lie behind it. */
        private void newline(Frame f) {
            Tree waiting = f.script.waiting;
            if (waiting != null) {
                f.script.waiting = null;
                enter(F_BODIES, 0, f.script).waiting = waiting;
            }
        }

        private void nextBody(Frame f) {
            Tree r = f.waiting;
            if (r == null) {
                depth--;
                return;
            }
            f.waiting = r.rest;
            r.rest = null;
            readBody(r, f.script);
        }

        /** The body's lines stay where they are: what goes of them is marked. */
        private void readBody(Tree r, Frame script) {
            Tree body = r.body;
            if (body == null) {
                return;
            }
            boolean asItIs = isQuoted(r);
            int line = in.line;
            int from = in.at;
            int end = from;
            boolean found = false;
            for (int i = 0; i < STEPS && !found; i++) {
                end = in.at;
                if (!passLine(asItIs, r.link == HERE_TABS)) {
                    fail(TOO_EARLY, in.line);
                    return;
                }
                found = isDelimiter(end, r);
            }
            body.told = inner == 0 ? told(from, end, false) : null;
            if (asItIs) {
                body.code = quoted(from, end);
                return;
            }
            Frame f = enter(F_BODY, 0, script);
            f.command = body;
            f.mark = codes;
            f.flags = IN_DOUBLE;
            f.section = nested;
            nested = body.number;
            in = Stream.text(in.data.upTo(end), line, in, null);
            in.at = from;
        }

        private static boolean isQuoted(Tree r) {
            for (int i = 0; i < r.code.length; i++) {
                if (r.code[i] > SIGN) {
                    return true;
                }
            }
            return false;
        }

        /** Passes a line (one that is joined of several, if the body isn't taken as it is): false if none ends here. */
        private boolean passLine(boolean asItIs, boolean withoutTabs) {
            boolean ahead = withoutTabs;
            int slashes = 0;
            int slash = NONE;
            while (in.at < in.data.length) {
                int c = in.data.at(in.at);
                pass(c);
                if (c == '\n' && !asItIs && slashes % 2 == 1) {
                    in.data.change(slash, GONE);
                    in.data.change(in.at - 1, GONE_LINE);
                    slashes = 0;
                } else if (c == '\n') {
                    return true;
                } else if (ahead && c == '\t') {
                    in.data.change(in.at - 1, GONE_TAB);
                } else if (c > GONE_TAB) {
                    ahead = ahead && c == '\\' && !asItIs && in.data.at(in.at) == '\n';
                    slashes = c == '\\' ? slashes + 1 : 0;
                    slash = in.at - 1;
                }
            }
            return false;
        }

        /** Whether the line that was passed is the word of a here-document, without its quotes. */
        private boolean isDelimiter(int start, Tree r) {
            int at = start;
            for (int i = 0; i < r.code.length; i++) {
                if (r.code[i] != MARK) {
                    at = behindMarks(at);
                    if (in.data.at(at) != (r.code[i] & SIGN)) {
                        return false;
                    }
                    at++;
                }
            }
            return behindMarks(at) == in.at - 1;
        }

        private int behindMarks(int at) {
            int i = at;
            while (in.data.at(i) >= 0 && in.data.at(i) <= GONE_TAB) {
                i++;
            }
            return i;
        }

        private int[] quoted(int from, int to) {
            int mark = codes;
            for (int i = from; i < to; i++) {
                if (in.data.at(i) > GONE_TAB) {
                    emit(in.data.at(i) | QUOTED);
                }
            }
            return cutCode(mark);
        }

        // ---- parts of words ----

        /** A sign of a word, or of w outside of quotes. */
        private void bareSign(Frame f) {
            int c = look();
            if (f.kind == F_WORD && endsWord(c)) {
                endWord(f);
                return;
            }
            if (c == NONE) {
                fail(TOO_EARLY, in.line);
                return;
            }
            switch (c) {
                case '\\':
                    pass(c);
                    c = lookRaw();
                    if (c == NONE) {
                        fail(TOO_EARLY, in.line);
                    } else {
                        pass(c);
                        emit(c | QUOTED);
                    }
                    break;
                case '\'':
                    singleQuotes();
                    break;
                case '"':
                    openQuotes(f);
                    break;
                case '$':
                    due = DUE_DOLLAR;
                    break;
                case '`':
                    ticks(false);
                    break;
                default:
                    pass(c);
                    if (c == '}' && f.kind == F_PARAMETER) {
                        endPart(f);
                    } else {
                        emit(c);
                    }
            }
        }

        private void singleQuotes() {
            emit(MARK);
            pass('\'');
            int c = lookRaw();
            for (int k = in.at; k < in.data.length && c != NONE && c != '\''; k++) {
                pass(c);
                emit(c | QUOTED);
                c = lookRaw();
            }
            if (c == NONE) {
                fail(TOO_EARLY, in.line);
            } else {
                pass(c);
            }
        }

        private void openQuotes(Frame f) {
            pass('"');
            Frame q = enter(F_QUOTES, 0, f.script);
            q.mark = codes;
            q.flags = IN_DOUBLE;
            emit(MARK);
        }

        /** Quotes of just one $@ are nothing without parameters: they have no MARK. */
        private void endQuotes(Frame f) {
            depth--;
            int at = f.mark;
            if (codes == at + 4 && codes <= code.length && code[at + 1] == (PARAMETER | IN_QUOTES)
                && code[at + 2] == ALL_AT) {
                for (int i = at; i + 1 < codes; i++) {
                    code[i] = code[i + 1];
                }
                codes--;
            }
        }

        /** A w or an arithmetic ends: the length of its code is told. */
        private void endPart(Frame f) {
            patch(f.mark);
            nested--;
            depth--;
        }

        /** A sign within quotes, of w within quotes, of an arithmetic, of a body. */
        private void quotedSign(Frame f) {
            int c = look();
            if (c == NONE) {
                if (f.kind == F_BODY) {
                    endBody(f);
                } else {
                    fail(TOO_EARLY, in.line);
                }
                return;
            }
            switch (c) {
                case '\\':
                    pass(c);
                    escape(f);
                    break;
                case '$':
                    due = DUE_DOLLAR;
                    break;
                case '`':
                    ticks(true);
                    break;
                case '"':
                    if (f.kind == F_PARAMETER) {
                        openQuotes(f);
                    } else {
                        pass(c);
                        if (f.kind == F_QUOTES) {
                            endQuotes(f);
                        } else {
                            emit(c | QUOTED);
                        }
                    }
                    break;
                default:
                    pass(c);
                    if (c == '}' && f.kind == F_PARAMETER) {
                        endPart(f);
                    } else if (c != ')' || f.kind != F_ARITHMETIC || !endsArithmetic(f)) {
                        f.from += c == '(' ? 1 : 0;
                        emit(c | QUOTED);
                    }
            }
        }

        private void escape(Frame f) {
            int c = lookRaw();
            boolean quotes = c == '$' || c == '`' || c == '"' || c == '\\' || c == '}' && f.kind == F_PARAMETER;
            if (quotes) {
                pass(c);
                emit(c | QUOTED);
            } else {
                emit('\\' | QUOTED);
            }
        }

        /** Whether the ) that was passed closes no ( of a, and another one is behind it. */
        private boolean endsArithmetic(Frame f) {
            if (f.from > 0) {
                f.from--;
                return false;
            }
            if (!passIf(')')) {
                return false;
            }
            endPart(f);
            return true;
        }

        private void endBody(Frame f) {
            f.command.code = cutCode(f.mark);
            nested = f.section;
            in = in.under;
            depth--;
        }

        /** A part that begins with $, or the sign itself. */
        private void dollar(boolean quotes) {
            int line = in.line;
            int flag = quotes ? IN_QUOTES : 0;
            pass('$');
            int c = look();
            if (c == '{') {
                if (nests(line)) {
                    pass(c);
                    braces(line, quotes);
                }
            } else if (c == '(') {
                pass(c);
                dollarOpen(line, quotes);
            } else if (isDigit(c)) {
                pass(c);
                parameter(flag, POSITION - (c - '0'));
            } else if (beginsName(c) || special(c) != NO_ID) {
                parameter(flag, spelledParameter());
            } else {
                emit('$' | (quotes ? QUOTED : 0));
            }
        }

        private void parameter(int flags, int id) {
            emit(PARAMETER | flags);
            emit(id);
            emit(0);
        }

        private void dollarOpen(int line, boolean quotes) {
            boolean arithmetic = look() == '(';
            if (!nests(line)) {
                return;
            }
            if (arithmetic) {
                pass('(');
                emit(ARITHMETIC | (quotes ? IN_QUOTES : 0));
                Frame f = enter(F_ARITHMETIC, 0, top().script);
                f.mark = codes;
                f.flags = IN_DOUBLE;
                emit(0);
                return;
            }
            Frame f = enter(F_SUBSTITUTION, BEGIN, null);
            f.source = in;
            f.section = quotes ? IN_DOUBLE : 0;
            inner++;
        }

        /** A parameter of one sign, or NO_ID. */
        private static int special(int c) {
            switch (c) {
                case '@':
                    return ALL_AT;
                case '*':
                    return ALL_STAR;
                case '#':
                    return HOW_MANY;
                case '?':
                    return LAST_STATUS;
                case '-':
                    return OPTIONS;
                case '$':
                    return ONE;
                default:
                    return NO_ID;
            }
        }

        /** The parameter that is spelled here (all its digits, or a whole name); NO_ID if none is. */
        private int spelledParameter() {
            int c = look();
            spelled.length = 0;
            if (beginsName(c)) {
                for (int k = in.at; k < in.data.length && isNameSign(c); k++) {
                    spelled.add(c);
                    pass(c);
                    c = look();
                }
                return memory.name(spelled).index;
            }
            if (isDigit(c)) {
                int position = 0;
                for (int k = in.at; k < in.data.length && isDigit(c); k++) {
                    position = Math.min(FAR_POSITION, position * 10 + (c - '0'));
                    pass(c);
                    c = look();
                }
                return POSITION - position;
            }
            if (special(c) != NO_ID) {
                pass(c);
            }
            return special(c);
        }

        /** Behind ${ : one of its three forms, the first that fits. */
        private void braces(int line, boolean quotes) {
            int flag = quotes ? IN_QUOTES : 0;
            int c = look();
            int id = spelledParameter();
            int next = look();
            if (id == NO_ID) {
                noParameter(line, c);
            } else if (next == '}') {
                closeBraces(flag, id);
            } else if (c == '#' && !(next == ':' || next == '=' || next == '+' || next == '%')) {
                behindHash(line, flag, next, spelledParameter());
            } else {
                operator(line, flag, id);
            }
        }

        private void noParameter(int line, int c) {
            fail(c == NONE ? TOO_EARLY : NO_PARAMETER, c == NONE ? in.line : line);
        }

        private void closeBraces(int flags, int id) {
            pass('}');
            nested--;
            parameter(flags, id);
        }

        /** Behind ${# and c, which is spelled as a parameter or not: its length, or an operator of # . */
        private void behindHash(int line, int flag, int c, int id) {
            int next = look();
            if (id == NO_ID) {
                noParameter(line, c);
            } else if (next == '}') {
                closeBraces(flag | LENGTH << FORM, id);
            } else if (c == '-') {
                openOperator(flag, HOW_MANY, MINUS);
            } else if (c == '?') {
                openOperator(flag, HOW_MANY, QUESTION);
            } else if (c == '#') {
                openOperator(flag, HOW_MANY, passIf('#') ? CUT_LONG_START : CUT_START);
            } else {
                noParameter(line, next);
            }
        }

        private void operator(int line, int flag, int id) {
            int c = look();
            boolean all = id == ALL_AT || id == ALL_STAR;
            if (c == ':') {
                pass(c);
                c = look();
                int form = emptyForm(c);
                if (form == 0) {
                    noParameter(line, c);
                    return;
                }
                pass(c);
                openOperator(flag | COLON, id, form);
            } else if (emptyForm(c) != 0) {
                pass(c);
                openOperator(flag, id, emptyForm(c));
            } else if (c == '%' && !all) {
                pass(c);
                openOperator(flag, id, passIf('%') ? CUT_LONG_END : CUT_END);
            } else if (c == '#' && !all) {
                pass(c);
                openOperator(flag, id, passIf('#') ? CUT_LONG_START : CUT_START);
            } else {
                noParameter(line, c);
            }
        }

        private static int emptyForm(int c) {
            switch (c) {
                case '-':
                    return MINUS;
                case '=':
                    return EQUALS;
                case '?':
                    return QUESTION;
                case '+':
                    return PLUS;
                default:
                    return 0;
            }
        }

        private void openOperator(int flags, int id, int form) {
            emit(PARAMETER | flags | form << FORM);
            emit(id);
            Frame f = enter(F_PARAMETER, 0, top().script);
            f.mark = codes;
            f.flags = (flags & IN_QUOTES) != 0 && form <= PLUS ? IN_DOUBLE : 0;
            emit(0);
        }

        /** `..`: a text of its own, up to the next ` that no \ quotes. */
        private void ticks(boolean quotes) {
            if (!nests(in.line)) {
                return;
            }
            pass('`');
            Row text = new Row(16);
            int bytes = 0;
            int c = lookRaw();
            for (int k = in.at; k < in.data.length && c != NONE && c != '`'; k++) {
                pass(c);
                bytes++;
                if (c == '\\') {
                    int d = lookRaw();
                    if (d == '`' || d == '\\' || d == '$' || quotes && d == '"') {
                        pass(d);
                        bytes++;
                        c = d;
                    }
                }
                text.add(c);
                c = lookRaw();
            }
            if (c == NONE) {
                fail(TOO_EARLY, in.line);
                return;
            }
            pass(c);
            if (begins(bytes)) {
                inner++;
                openText(text, F_TICKS, in).section = quotes ? IN_DOUBLE : 0;
            }
        }
    }

    /** Runs trees: lists, pipelines, commands, redirections and the special commands. */
    private static final class Shell {
        private static final int MOST_WORK = 128000;
        private static final int MOST_LEVELS = 60;
        private static final int MOST_PIPE = 16384;
        private static final int ROUNDS = 1000000;

        // What makes a list end ahead of its end.
        private static final int GOING = 0;
        private static final int BREAKING = 1;
        private static final int CONTINUING = 2;
        private static final int RETURNING = 3;
        private static final int EXITING = 4;
        private static final int HALTING = 5;

        private static final int STOPPED = 1;
        private static final int SPENT = 2;
        private static final int HALTED_STATUS = 130;

        private final Memory memory;
        private final Reader reader;
        private Expander expander;
        private Tools tools;
        // The input and what is written; what 0, 1, 2 are now; what they were ahead of redirections.
        private final Stream[] base = new Stream[3];
        private final Stream[] open = new Stream[3];
        private final Stream closed = new Stream(null, null, true, 0);
        private Stream[] savedStreams = new Stream[16];
        private int[] savedNumbers = new int[16];
        private int redirected;
        // The variables that were assigned for one command alone, and their values from before it.
        private Name[] lentNames = new Name[16];
        private Row[] lentValues = new Row[16];
        private int lent;
        private int status;
        private int signal;
        private int leaving;
        private int level;
        // How many conditions, ! and and-ors are open, in which option e does nothing.
        private int shields;
        private int work;
        private int simples;
        private int most;
        private int halted;
        // The status of the command's last substitution, or NONE.
        private int substituted = NONE;
        // What substitutions write, one at each level: made once and used again.
        private final Stream[] captures = new Stream[MOST_LEVELS + 1];

        private Shell(Memory memory, Reader reader) {
            this.memory = memory;
            this.reader = reader;
            base[0] = new Stream(new Row(64), null, true, 0);
            base[1] = new Stream(new Row(64), null, false, MOST_WRITTEN);
            base[2] = new Stream(new Row(64), null, false, MOST_WRITTEN);
        }

        /** A script is about to run in the shell itself. */
        private void begin(int most) {
            this.most = most;
            simples = 0;
            signal = GOING;
            halted = 0;
            level = 0;
            shields = 0;
            for (int i = 0; i < 3; i++) {
                open[i] = base[i];
            }
        }

        /** The script came to its end, or was left: why. */
        private int end() {
            if (signal == HALTING) {
                status = HALTED_STATUS;
            }
            return halted;
        }

        private void halt(int why) {
            signal = HALTING;
            halted = why;
        }

        /** Looks whether the shell is spent, which ends the run. */
        private boolean isSpent() {
            if (work < MOST_WORK) {
                return false;
            }
            halt(SPENT);
            return true;
        }

        /** An error: the script or the subshell ends with status 2. */
        private void fail() {
            if (signal != HALTING) {
                signal = EXITING;
                status = 2;
            }
        }

        /** Something begins that counts as being within one another. */
        private boolean deeper() {
            if (level >= MOST_LEVELS) {
                fail();
                return false;
            }
            level++;
            return true;
        }

        /** The next byte of 0, or NONE. */
        private int take() {
            Stream in = open[0];
            int c = in == null || work >= MOST_WORK ? NONE : in.pull();
            work += c == NONE ? 0 : 1;
            return c;
        }

        /** A byte is written to 1. */
        private void write(int sign) {
            if (work < MOST_WORK) {
                work++;
                if (open[1] != null) {
                    open[1].push(sign);
                }
            }
        }

        private void writeAll(Row row) {
            for (int i = 0; i < row.length; i++) {
                write(row.at(i));
            }
        }

        // ---- lists ----

        /** Runs a list; or, if it is behind, just its first and-or. */
        private void list(Tree first, boolean justOne) {
            if (first == null) {
                status = 0;
            }
            Tree at = first;
            while (at != null && signal == GOING) {
                if (at.background && !justOne) {
                    inBackground(at);
                    at = behindAndOr(at);
                    continue;
                }
                Tree last = endOfPipeline(at);
                boolean isLast = last.link != AND && last.link != OR;
                int shield = at.not || !isLast ? 1 : 0;
                shields += shield;
                if (at != last) {
                    pipeline(at, last);
                } else if (at.kind == SIMPLE) {
                    simple(at);
                } else {
                    compound(at);
                }
                shields -= shield;
                if (signal == GOING && at.not) {
                    status = status == 0 ? 1 : 0;
                } else if (signal == GOING && status != 0 && isLast && shields == 0 && memory.has(OPTION_E)) {
                    signal = EXITING;
                }
                last = skipped(last);
                at = justOne && last.link == SEMI ? null : last.next;
            }
        }

        private static Tree endOfPipeline(Tree first) {
            Tree at = first;
            while (at.link == PIPE && at.next != null) {
                at = at.next;
            }
            return at;
        }

        private static Tree behindAndOr(Tree first) {
            Tree at = first;
            while (at.link != SEMI && at.next != null) {
                at = at.next;
            }
            return at.next;
        }

        /** The last command of the pipelines that && and || skip behind this one. */
        private Tree skipped(Tree last) {
            Tree at = last;
            while (at.next != null && (at.link == AND && status != 0 || at.link == OR && status == 0)) {
                at = endOfPipeline(at.next);
            }
            return at;
        }

        private void inBackground(Tree first) {
            if (isSpent() || !deeper()) {
                return;
            }
            memory.enter(status);
            list(first, true);
            leaveSubshell();
            status = 0;
            level--;
        }

        private int leaveSubshell() {
            if (signal != HALTING) {
                signal = GOING;
            }
            return memory.leave();
        }

        /** Each command of a pipeline runs to its end, in a subshell of its own. */
        private void pipeline(Tree first, Tree last) {
            Stream in = open[0];
            Stream out = open[1];
            Stream from = in;
            Tree at = first;
            while (at != null && signal == GOING && !isSpent() && deeper()) {
                Row pipe = at == last ? null : new Row(16);
                open[0] = from;
                open[1] = pipe == null ? out : new Stream(pipe, null, false, MOST_PIPE);
                memory.enter(status);
                if (at.kind == SIMPLE) {
                    simple(at);
                } else {
                    compound(at);
                }
                leaveSubshell();
                level--;
                from = pipe == null ? in : new Stream(pipe, null, true, 0);
                at = at == last ? null : at.next;
            }
            open[0] = in;
            open[1] = out;
        }

        /** What a substitution writes goes to a row of its own. */
        private Row capture() {
            int place = Math.max(0, Math.min(level, MOST_LEVELS));
            if (captures[place] == null) {
                captures[place] = new Stream(new Row(16), null, false, MOST_PIPE);
            }
            Stream out = captures[place];
            out.data.length = 0;
            save(1);
            open[1] = out;
            memory.enter(status);
            return out.data;
        }

        private void release() {
            substituted = status;
            status = leaveSubshell();
            restore(redirected - 1);
            level--;
        }

        // ---- commands ----

        private void simple(Tree c) {
            if (isSpent()) {
                return;
            }
            if (simples >= most) {
                halt(STOPPED);
                return;
            }
            simples++;
            work += 16;
            int outer = substituted;
            int first = expander.fieldTop;
            int mark = redirected;
            substituted = NONE;
            for (Tree w = c.words; w != null && signal == GOING; w = w.next) {
                if (w.kind == WORD) {
                    expander.fieldsOf(w, first);
                }
            }
            int n = expander.fieldTop - first;
            if (signal == GOING && redirect(c.words)) {
                Name name = n > 0 ? memory.find(expander.field(first)) : null;
                int own = lent;
                if (assign(c.words, n > 0 && lends(name))) {
                    if (n > 0) {
                        invoke(name, first, n);
                    } else {
                        status = Math.max(0, substituted);
                    }
                }
                giveBack(own);
            }
            restore(mark);
            expander.fieldTop = first;
            substituted = outer;
        }

        private static boolean isSpecial(Name name) {
            return name != null && name.command != 0 && name.command <= LAST_SPECIAL;
        }

        /** Whether assignments ahead of a command with this name are for it alone. */
        private static boolean lends(Name name) {
            return !isSpecial(name) && (name == null || name.function == null);
        }

        /** The command with this name (null if nothing has it) runs with the fields behind it. */
        private void invoke(Name name, int first, int n) {
            int command = name == null ? 0 : name.command;
            Tree function = name == null ? null : name.function;
            if (command == C_EVAL || command == C_DOT) {
                further(command, first + 1, n - 1);
            } else if (isSpecial(name)) {
                special(command, first + 1, n - 1);
            } else if (function != null) {
                call(function, first + 1, n - 1);
            } else if (command != 0) {
                tools.begin(first + 1, n - 1);
                int result = command <= C_UNALIAS ? tools.work(command)
                    : command <= C_SEQ ? tools.filter(command) : tools.files(command);
                status = signal == GOING ? result : status;
                writeAll(tools.made);
            } else {
                status = 127;
            }
        }

        /** Assignments are done; those for one command alone are lent. */
        private boolean assign(Tree elements, boolean lends) {
            for (Tree w = elements; w != null && signal == GOING; w = w.next) {
                if (w.kind == ASSIGNMENT) {
                    int start = expander.top;
                    boolean whole = expander.word(w.code, w.number, w.code.length, Expander.WHOLE) >= 0;
                    Row value = expander.cut(start);
                    if (whole && w.name != null) {
                        Row old = w.name.value;
                        if (!memory.assign(w.name, value)) {
                            fail();
                        } else if (lends) {
                            lend(w.name, old);
                        }
                    }
                }
            }
            return signal == GOING;
        }

        private void lend(Name name, Row old) {
            if (lent >= lentNames.length || lent >= lentValues.length) {
                Name[] names = new Name[lentNames.length * 2];
                Row[] values = new Row[names.length];
                for (int i = 0; i < lentNames.length && i < names.length; i++) {
                    names[i] = lentNames[i];
                }
                for (int i = 0; i < lentValues.length && i < values.length; i++) {
                    values[i] = lentValues[i];
                }
                lentNames = names;
                lentValues = values;
            }
            lentNames[lent] = name;
            lentValues[lent] = old;
            lent++;
        }

        private void giveBack(int mark) {
            while (lent > mark && lent <= lentNames.length) {
                lent--;
                memory.assign(lentNames[lent], lentValues[lent]);
            }
        }

        /** A function runs, with its own parameters till it ends. */
        private void call(Tree function, int first, int n) {
            Tree body = function.body;
            if (body == null || !deeper()) {
                return;
            }
            int ownBase = memory.base;
            int own = memory.parameters;
            int ownFloor = memory.floor;
            int ownLoops = memory.loops;
            memory.floor = Math.max(ownFloor, ownBase + own);
            memory.tellParameters(expander.fields, first, n);
            memory.loops = 0;
            memory.calls++;
            compound(body);
            if (signal == RETURNING) {
                signal = GOING;
            }
            memory.calls--;
            memory.loops = ownLoops;
            memory.base = ownBase;
            memory.parameters = own;
            memory.floor = ownFloor;
            level--;
        }

        private void compound(Tree c) {
            if (isSpent()) {
                return;
            }
            work += 16;
            if (c.kind == FUNCTION) {
                define(c);
                return;
            }
            int mark = redirected;
            // The redirections stand behind the compound, not within it.
            if (redirect(c.words) && deeper()) {
                switch (c.kind) {
                    case PAREN:
                        memory.enter(status);
                        list(c.body, false);
                        leaveSubshell();
                        break;
                    case BRACE:
                        list(c.body, false);
                        break;
                    case IF:
                        choose(c);
                        break;
                    case FOR:
                        each(c);
                        break;
                    case CASE:
                        match(c);
                        break;
                    default:
                        loop(c);
                }
                level--;
            }
            restore(mark);
        }

        private void define(Tree c) {
            if (c.name != null) {
                memory.remember(c.name);
                c.name.function = c;
            }
            status = 0;
        }

        private void choose(Tree c) {
            for (Tree clause = c; clause != null; clause = clause.rest) {
                if (clause.test != null) {
                    shields++;
                    list(clause.test, false);
                    shields--;
                }
                if (signal != GOING) {
                    return;
                }
                if (clause.test == null || status == 0) {
                    list(clause.body, false);
                    return;
                }
            }
            status = 0;
        }

        private void loop(Tree c) {
            int result = 0;
            memory.loops++;
            for (int i = 0; i < ROUNDS; i++) {
                shields++;
                list(c.test, false);
                shields--;
                boolean goes = signal == GOING && (status == 0) == (c.kind == WHILE);
                if (goes) {
                    list(c.body, false);
                    result = status;
                }
                boolean again = signal == CONTINUING || goes;
                if (!goesOn() || !again) {
                    break;
                }
            }
            memory.loops--;
            if (signal == GOING) {
                status = result;
            }
        }

        /** Behind a list of a loop: whether the loop goes on. */
        private boolean goesOn() {
            if (signal == BREAKING || signal == CONTINUING) {
                boolean isContinue = signal == CONTINUING;
                leaving--;
                if (leaving > 0) {
                    return false;
                }
                signal = GOING;
                return isContinue;
            }
            return signal == GOING;
        }

        private void each(Tree c) {
            int first = expander.fieldTop;
            if (c.in) {
                for (Tree w = c.head; w != null && signal == GOING; w = w.next) {
                    expander.fieldsOf(w, first);
                }
            } else {
                work += memory.parameters;
                for (int i = 1; i <= memory.parameters; i++) {
                    expander.addField(memory.parameter(i));
                }
            }
            int end = expander.fieldTop;
            int result = 0;
            memory.loops++;
            for (int i = first; i < end && signal == GOING; i++) {
                if (c.name == null || !memory.assign(c.name, expander.field(i))) {
                    fail();
                    break;
                }
                list(c.body, false);
                result = status;
                if (!goesOn()) {
                    break;
                }
            }
            memory.loops--;
            expander.fieldTop = first;
            if (signal == GOING) {
                status = result;
            }
        }

        private void match(Tree c) {
            int start = expander.top;
            if (c.head == null || expander.word(c.head.code, 0, c.head.code.length, Expander.WHOLE) < 0) {
                expander.drop(start);
                return;
            }
            Row value = expander.cut(start);
            for (Tree item = c.rest; item != null; item = item.rest) {
                for (Tree w = item.head; w != null; w = w.next) {
                    boolean fits = expander.word(w.code, 0, w.code.length, Expander.WHOLE) >= 0
                        && expander.matches(start, value);
                    expander.drop(start);
                    if (signal != GOING) {
                        return;
                    }
                    if (fits) {
                        list(item.body, false);
                        return;
                    }
                }
            }
            status = 0;
        }

        // ---- redirections ----

        /** Redirections are made, each ahead of the next one; without success the status is told. */
        private boolean redirect(Tree elements) {
            for (Tree r = elements; r != null; r = r.next) {
                if (r.kind == REDIRECTION) {
                    Tree w = r.body == null ? r : r.body;
                    int start = expander.top;
                    boolean whole = expander.word(w.code, 0, w.code.length, Expander.WHOLE) >= 0;
                    Row told = expander.cut(start);
                    if (!whole) {
                        return false;
                    }
                    boolean out = r.link == GREAT || r.link == APPEND || r.link == DUP_OUT;
                    int number = r.number >= 0 ? r.number : out ? 1 : 0;
                    Stream made = number >= open.length ? null : opened(r.link, told);
                    if (made == null) {
                        status = 1;
                        return false;
                    }
                    save(number);
                    open[number] = made;
                }
            }
            return true;
        }

        /** What a redirection opens, or null. */
        private Stream opened(int operator, Row told) {
            switch (operator) {
                case HERE:
                case HERE_TABS:
                    return new Stream(told, null, true, 0);
                case DUP_IN:
                case DUP_OUT:
                    if (told.is("-")) {
                        return closed;
                    }
                    int number = told.length == 1 ? told.at(0) - '0' : NONE;
                    boolean isOpen = number >= 0 && number < open.length && open[number] != closed;
                    return isOpen ? open[number] : null;
                default:
                    return openedFile(operator, told);
            }
        }

        private Stream openedFile(int operator, Row path) {
            boolean reading = operator == LESS;
            if (path.isNullDevice()) {
                return new Stream(null, null, reading, 0);
            }
            Node file = memory.here.find(path);
            if (file == null && !reading) {
                file = memory.here.make(path, false);
            }
            if (file == null || file.isDirectory()) {
                return null;
            }
            if (operator == GREAT) {
                file.emptyFile();
            }
            return new Stream(file.data, file, reading, 0);
        }

        private void save(int number) {
            if (redirected >= savedStreams.length || redirected >= savedNumbers.length) {
                Stream[] streams = new Stream[savedStreams.length * 2];
                int[] numbers = new int[streams.length];
                for (int i = 0; i < savedStreams.length && i < streams.length; i++) {
                    streams[i] = savedStreams[i];
                }
                System.arraycopy(savedNumbers, 0, numbers, 0, savedNumbers.length);
                savedStreams = streams;
                savedNumbers = numbers;
            }
            savedStreams[redirected] = open[number];
            savedNumbers[redirected] = number;
            redirected++;
        }

        /** Redirections are undone. */
        private void restore(int mark) {
            while (redirected > mark && redirected > 0) {
                redirected--;
                int number = savedNumbers[redirected];
                if (number >= 0 && number < open.length) {
                    open[number] = savedStreams[redirected];
                }
            }
        }

        // ---- special commands ----

        private void special(int command, int first, int n) {
            boolean right;
            switch (command) {
                case C_COLON:
                    status = 0;
                    return;
                case C_BREAK:
                case C_CONTINUE:
                    right = leaveLoops(command, first, n);
                    break;
                case C_RETURN:
                case C_EXIT:
                    right = leave(command, first, n);
                    break;
                case C_SET:
                    right = set(first, n);
                    break;
                case C_SHIFT:
                    right = shift(first, n);
                    break;
                case C_UNSET:
                    right = unset(first, n);
                    break;
                default:
                    right = declare(command == C_READONLY, first, n);
            }
            if (!right) {
                fail();
            } else if (command != C_RETURN && command != C_EXIT) {
                status = 0;
            }
        }

        /** eval and . : a text is read and runs. */
        private void further(int command, int first, int n) {
            if (!deeper()) {
                return;
            }
            Row text = new Row(16);
            boolean isEval = command == C_EVAL;
            boolean fine = isEval ? join(text, first, n) : n > 0 && readFile(text, expander.field(first));
            if (!fine || !text.isText() || !reader.parse(text)) {
                fail();
                level--;
                return;
            }
            Tree script = reader.script;
            if (isEval) {
                list(script.body, false);
            } else {
                int loops = memory.loops;
                memory.loops = 0;
                memory.calls++;
                list(script.body, false);
                if (signal == RETURNING) {
                    signal = GOING;
                }
                memory.calls--;
                memory.loops = loops;
            }
            level--;
        }

        private boolean join(Row text, int first, int n) {
            for (int i = 0; i < n; i++) {
                Row word = expander.field(first + i);
                if (i > 0) {
                    text.add(' ');
                }
                if (text.length + word.length > MOST_TEXT) {
                    return false;
                }
                text.addRow(word);
            }
            return text.length <= MOST_TEXT;
        }

        /** The bytes of a file come to a row: false if there is no such file. */
        private boolean readFile(Row text, Row path) {
            if (path.isNullDevice()) {
                return true;
            }
            Node file = memory.here.find(path);
            if (file == null || file.isDirectory()) {
                return false;
            }
            for (int i = 0; i < file.data.length && work < MOST_WORK; i++) {
                work++;
                text.add(file.data.at(i));
            }
            return true;
        }

        private boolean leaveLoops(int command, int first, int n) {
            Row word = expander.field(first);
            if (n > 1 || n == 1 && (!word.isNumber() || word.number() < 1)) {
                return false;
            }
            if (memory.loops > 0) {
                leaving = n == 0 ? 1 : (int) Math.min(memory.loops, word.number());
                signal = command == C_BREAK ? BREAKING : CONTINUING;
            }
            return true;
        }

        private boolean leave(int command, int first, int n) {
            Row word = expander.field(first);
            if (n > 1 || n == 1 && !word.isNumber()) {
                return false;
            }
            if (n == 1) {
                status = (int) (word.number() & 255);
            }
            signal = command == C_RETURN && memory.calls > 0 ? RETURNING : EXITING;
            return true;
        }

        private boolean set(int first, int n) {
            int options = memory.options;
            int i = 0;
            boolean dashes = false;
            while (i < n && !dashes) {
                Row word = expander.field(first + i);
                if (word.at(0) != '-' && word.at(0) != '+') {
                    break;
                }
                dashes = word.is("--");
                if (!dashes) {
                    int letters = letters(word);
                    if (letters == 0) {
                        return false;
                    }
                    options = word.at(0) == '-' ? options | letters : options & ~letters;
                }
                i++;
            }
            memory.options = options;
            if (dashes || i < n) {
                memory.tellParameters(expander.fields, first + i, n - i);
            }
            return true;
        }

        /** The options that a word tells behind its sign; 0 if it tells anything else. */
        private static int letters(Row word) {
            int letters = 0;
            for (int i = 1; i < word.length; i++) {
                int c = word.at(i);
                int letter = c == 'e' ? OPTION_E : c == 'f' ? OPTION_F : c == 'u' ? OPTION_U : 0;
                if (letter == 0) {
                    return 0;
                }
                letters |= letter;
            }
            return letters;
        }

        private boolean shift(int first, int n) {
            Row word = expander.field(first);
            if (n > 1 || n == 1 && !word.isNumber()) {
                return false;
            }
            long places = n == 0 ? 1 : word.number();
            if (places < 0 || places > memory.parameters) {
                return false;
            }
            memory.base += (int) places;
            memory.parameters -= (int) places;
            work += memory.parameters;
            return true;
        }

        private boolean unset(int first, int n) {
            boolean functions = n > 0 && expander.field(first).is("-f");
            for (int i = functions ? 1 : 0; i < n; i++) {
                Row word = expander.field(first + i);
                if (!word.isName()) {
                    return false;
                }
                Name name = memory.find(word);
                if (name != null && functions) {
                    memory.remember(name);
                    name.function = null;
                } else if (name != null && !memory.assign(name, null)) {
                    return false;
                }
            }
            return true;
        }

        /** readonly and export. */
        private boolean declare(boolean readOnly, int first, int n) {
            for (int i = 0; i < n; i++) {
                Row word = expander.field(first + i);
                int end = word.place('=', 0, word.length);
                if (!word.isNameUpTo(end)) {
                    return false;
                }
                Name name = memory.name(end < word.length ? word.part(0, end) : word);
                if (end < word.length && !memory.assign(name, word.part(end + 1, word.length))) {
                    return false;
                }
                if (readOnly) {
                    memory.remember(name);
                    name.value = name.value == null ? new Row(0) : name.value;
                    name.readOnly = true;
                }
            }
            return true;
        }
    }

    /** Expands words: parts, fields, patterns, path names. What a word comes to lies on a stack of items. */
    private static final class Expander {
        // Ways of expanding: with fields of their own, or all in one; and w, whose signs come of a part.
        private static final int FIELDS = 0;
        private static final int WHOLE = 1;
        private static final int INSIDE = 2;

        private static final int MOST_SIGNS = 16384;
        private static final int MOST_FIELDS = 2000;
        private static final int MOST_PATHS = 2000;
        private static final int MOST_PATH_SIGNS = 65536;
        private static final int TOO_MANY_PATHS = 16000;

        // What a sign of IFS is.
        private static final int BLANK = 1;
        private static final int OTHER = 2;

        private final Memory memory;
        private final Reader reader;
        private final Shell shell;
        private final Sum sum;
        private int[] items = new int[256];
        private int top;
        // How many signs the word that is being worked out has come to.
        private int signs;
        private Row[] fields = new Row[64];
        private int fieldTop;
        private final int[] separators = new int[256];
        private Row separatorsOf;
        private final Row scratch = new Row(32);
        // A pattern: its items, where each of its elements begins, and which elements a beginning reaches.
        private int[] pattern = new int[64];
        private int[] elements = new int[64];
        private int elementCount;
        private int[] reached = new int[64];
        private int shortest;
        private int longest;
        // Paths that match up to a part of a pattern: those of the part before, then those of this part.
        private Row[] paths = new Row[64];
        private Node[] nodes = new Node[64];
        private int pathCount;
        // How many parts of path names were patterns so far.
        private int part;

        private Expander(Memory memory, Reader reader, Shell shell) {
            this.memory = memory;
            this.reader = reader;
            this.shell = shell;
            sum = new Sum(memory);
            separators[' '] = BLANK;
            separators['\t'] = BLANK;
            separators['\n'] = BLANK;
        }

        // ---- the stack of items, and fields ----

        private void push(int item) {
            if (top >= items.length) {
                int[] more = new int[items.length * 2];
                System.arraycopy(items, 0, more, 0, items.length);
                items = more;
            }
            items[top] = item;
            top++;
        }

        /** A sign (or a boundary) comes to the word, which may have so many. */
        private void pushSign(int item) {
            if (signs >= MOST_SIGNS) {
                shell.fail();
            } else if (shell.signal == Shell.GOING) {
                signs++;
                push(item);
            }
        }

        private void pushRow(Row row, int flag) {
            for (int i = 0; i < row.length && shell.signal == Shell.GOING; i++) {
                pushSign(row.at(i) | flag);
            }
        }

        private void drop(int start) {
            top = start;
        }

        private static boolean isSign(int item) {
            return (item & (MARK | BOUNDARY)) == 0;
        }

        /** The signs of some items. */
        private Row rowOf(int from, int to) {
            int length = 0;
            for (int i = from; i < to && i < items.length; i++) {
                length += isSign(items[i]) ? 1 : 0;
            }
            if (length == 0) {
                return memory.nothing;
            }
            Row row = new Row(length);
            for (int i = from; i < to && i < items.length; i++) {
                if (isSign(items[i])) {
                    row.add(items[i] & SIGN);
                }
            }
            return row;
        }

        /** What a word came to, taken off the stack; nothing of one that was left. */
        private Row cut(int start) {
            Row row = shell.signal == Shell.GOING ? rowOf(start, top) : memory.nothing;
            top = start;
            return row;
        }

        /** A field; one without signs where there is none. */
        private Row field(int i) {
            Row field = i >= 0 && i < fieldTop && i < fields.length ? fields[i] : null;
            return field == null ? memory.nothing : field;
        }

        private void addField(Row row) {
            if (fieldTop >= fields.length) {
                Row[] more = new Row[fields.length * 2];
                for (int i = 0; i < fields.length && i < more.length; i++) {
                    more[i] = fields[i];
                }
                fields = more;
            }
            fields[fieldTop] = row;
            fieldTop++;
        }

        // ---- words ----

        /** The fields of a word come behind the others of the command, whose first one is told. */
        private void fieldsOf(Tree w, int first) {
            int start = top;
            if (word(w.code, 0, w.code.length, FIELDS) >= 0) {
                split(start, first);
            }
            drop(start);
        }

        /** Works a word out: its items lie on the stack then. How many signs it came to, or NONE. */
        private int word(int[] code, int from, int to, int way) {
            if (shell.isSpent()) {
                return NONE;
            }
            int outer = signs;
            signs = 0;
            int i = from;
            while (i >= 0 && i < to && i < code.length && shell.signal == Shell.GOING) {
                int item = code[i];
                if (item < MARK) {
                    boolean told = (item & QUOTED) != 0 || (way & INSIDE) == 0;
                    pushSign(told ? item : item | SPLIT);
                    i++;
                } else if (item == MARK) {
                    push(item);
                    i++;
                } else if (item == TILDE) {
                    home();
                    i++;
                } else if ((item & PARAMETER) != 0) {
                    i = parameter(code, i, way);
                } else if ((item & ARITHMETIC) != 0) {
                    i = arithmetic(code, i);
                } else {
                    Tree script = i + 1 < code.length ? reader.scriptAt(code[i + 1]) : null;
                    if (script != null && shell.deeper()) {
                        Row taken = shell.capture();
                        shell.list(script.body, false);
                        shell.release();
                        paste(taken, flagOf(item));
                    }
                    i += 2;
                }
            }
            int length = signs;
            signs = outer;
            if (shell.signal != Shell.GOING) {
                return NONE;
            }
            shell.work += 8 + length;
            return length;
        }

        private static int flagOf(int item) {
            return (item & IN_QUOTES) != 0 ? QUOTED : SPLIT;
        }

        private void home() {
            Row home = memory.home.value;
            if (home == null) {
                pushSign('~');
            } else {
                push(MARK);
                pushRow(home, QUOTED);
            }
        }

        /** What a substitution wrote, without newlines at its end. */
        private void paste(Row taken, int flag) {
            int end = taken.length;
            while (end > 0 && taken.at(end - 1) == '\n') {
                end--;
            }
            taken.length = end;
            pushRow(taken, flag);
        }

        /** An arithmetic; the place of the code behind it. */
        private int arithmetic(int[] code, int at) {
            int from = at + 2;
            int to = at + 1 < code.length ? from + code[at + 1] : from;
            if (!shell.deeper()) {
                return to;
            }
            int start = top;
            int length = word(code, from, to, WHOLE);
            shell.level--;
            Row text = cut(start);
            if (length >= 0) {
                long value = sum.reckon(text);
                if (sum.wrong) {
                    shell.fail();
                } else {
                    scratch.length = 0;
                    scratch.addNumber(value);
                    pushRow(scratch, flagOf(code[at]));
                }
            }
            return to;
        }

        // ---- parameters ----

        /** A parameter; the place of the code behind it. */
        private int parameter(int[] code, int at, int way) {
            if (at + 2 >= code.length) {
                return code.length;
            }
            int item = code[at];
            int id = code[at + 1];
            int end = at + 3 + code[at + 2];
            int form = item >> FORM & 15;
            boolean all = id == ALL_AT || id == ALL_STAR;
            Row value = all ? null : valueOf(id);
            boolean isSet = all ? memory.parameters > 0 : value != null;
            boolean empty = (item & COLON) != 0 && (all ? allEmpty() : value == null || value.length == 0);
            boolean has = isSet && !empty;
            if (form >= MINUS && form <= PLUS && has == (form == PLUS)) {
                instead(code, at, end);
            } else if (form == PLUS) {
                return end;
            } else if (!isSet && !all && memory.has(OPTION_U)) {
                shell.fail();
            } else if (form == LENGTH) {
                int length = all ? memory.parameters : value == null ? 0 : value.length;
                scratch.length = 0;
                scratch.addNumber(length);
                pushRow(scratch, flagOf(item));
            } else if (all) {
                showAll(id, item, way);
            } else if (value != null && form >= CUT_END) {
                // Only what lies in the row that w may use again is copied: a copy takes room, but costs no WORK.
                trim(code, at, end, id < 0 && id >= POSITION ? value.part(0, value.length) : value);
            } else if (value != null) {
                pushRow(value, flagOf(item));
            }
            return end;
        }

        private boolean allEmpty() {
            for (int i = 1; i <= memory.parameters; i++) {
                Row value = memory.parameter(i);
                if (value != null && value.length > 0) {
                    return false;
                }
            }
            return true;
        }

        /** The value of a parameter that is not @ or * , or null. That of a special one lasts till the next call. */
        private Row valueOf(int id) {
            if (id >= 0) {
                Name name = memory.named(id);
                return name == null ? null : name.value;
            }
            if (id < POSITION) {
                return memory.parameter(POSITION - id);
            }
            scratch.length = 0;
            switch (id) {
                case HOW_MANY:
                    scratch.addNumber(memory.parameters);
                    break;
                case LAST_STATUS:
                    scratch.addNumber(shell.status);
                    break;
                case ONE:
                    scratch.add('1');
                    break;
                case OPTIONS:
                    scratch.addText(memory.has(OPTION_E) ? "e" : "");
                    scratch.addText(memory.has(OPTION_F) ? "f" : "");
                    scratch.addText(memory.has(OPTION_U) ? "u" : "");
                    break;
                default:
                    scratch.addText("sh");
            }
            return scratch;
        }

        /** With - = ? or + : w, or an error. */
        private void instead(int[] code, int at, int end) {
            int form = code[at] >> FORM & 15;
            int id = code[at + 1];
            Name name = id >= 0 ? memory.named(id) : null;
            if (form == QUESTION || form == EQUALS && name == null) {
                shell.fail();
                return;
            }
            if (!shell.deeper()) {
                return;
            }
            int start = top;
            int length = word(code, at + 3, end, (code[at] & IN_QUOTES) != 0 ? WHOLE : WHOLE | INSIDE);
            shell.level--;
            if (length < 0) {
                return;
            }
            signs += length;
            boolean refused = form == EQUALS && !memory.assign(name, rowOf(start, top));
            if (refused || signs > MOST_SIGNS) {
                shell.fail();
            }
        }

        /** The value without the beginning or the end that w matches. */
        private void trim(int[] code, int at, int end, Row value) {
            int form = code[at] >> FORM & 15;
            if (!shell.deeper()) {
                return;
            }
            int start = top;
            int length = word(code, at + 3, end, WHOLE);
            shell.level--;
            if (length >= 0) {
                shell.work += value.length;
                boolean atEnd = form == CUT_END || form == CUT_LONG_END;
                prepare(start, top);
                walk(value, atEnd);
            }
            drop(start);
            if (length < 0) {
                return;
            }
            int gone = Math.max(0, form == CUT_END || form == CUT_START ? shortest : longest);
            boolean fromStart = form == CUT_START || form == CUT_LONG_START;
            int from = fromStart ? gone : 0;
            int to = fromStart ? value.length : value.length - gone;
            for (int i = from; i < to && shell.signal == Shell.GOING; i++) {
                pushSign(value.at(i) | flagOf(code[at]));
            }
        }

        /** The values of @ or * : as fields of their own, or joined. */
        private void showAll(int id, int item, int way) {
            boolean quotes = (item & IN_QUOTES) != 0;
            boolean joined = (way & WHOLE) != 0 || id == ALL_STAR && quotes;
            int glue = id == ALL_AT ? ' ' : firstSeparator();
            for (int i = 1; i <= memory.parameters && shell.signal == Shell.GOING; i++) {
                if (i > 1 && !joined) {
                    pushSign(BOUNDARY);
                } else if (i > 1 && glue != NONE) {
                    pushSign(glue | flagOf(item));
                }
                if (quotes) {
                    push(MARK);
                }
                Row value = memory.parameter(i);
                if (value != null) {
                    pushRow(value, flagOf(item));
                }
            }
        }

        private int firstSeparator() {
            Row ifs = memory.separators.value;
            return ifs == null ? ' ' : ifs.at(0);
        }

        // ---- fields ----

        /** What the sign is in IFS: a blank, another one, or 0. */
        private int separator(int sign) {
            Row ifs = memory.separators.value;
            if (ifs != separatorsOf) {
                for (int i = 0; i < separators.length; i++) {
                    separators[i] = 0;
                }
                for (int i = 0; i < (ifs == null ? 3 : ifs.length); i++) {
                    int c = ifs == null ? " \t\n".charAt(i) : ifs.at(i) & SIGN;
                    separators[c] = c == ' ' || c == '\t' || c == '\n' ? BLANK : OTHER;
                }
                separatorsOf = ifs;
            }
            return separators[sign & SIGN];
        }

        /** The items from a place on become fields. */
        private void split(int start, int first) {
            int end = top;
            int from = start;
            boolean some = false;
            // Blanks ended a field: another sign that follows them belongs to the same end.
            boolean ended = false;
            for (int i = start; i < end && i < items.length && shell.signal == Shell.GOING; i++) {
                int item = items[i];
                int kind = (item & SPLIT) != 0 ? separator(item) : 0;
                if (item == BOUNDARY || kind == BLANK) {
                    if (some) {
                        addFields(from, i, first);
                    }
                    ended = kind == BLANK && (some || ended);
                    some = false;
                    from = i + 1;
                } else if (kind == OTHER) {
                    if (!ended) {
                        addFields(from, i, first);
                    }
                    ended = false;
                    some = false;
                    from = i + 1;
                } else {
                    some = true;
                    ended = false;
                }
            }
            if (some) {
                addFields(from, end, first);
            }
        }

        /** A field, or the path names that it is a pattern of. */
        private void addFields(int from, int to, int first) {
            pathCount = 0;
            if (!memory.has(OPTION_F) && isPattern(from, to)) {
                pathCount = 1;
                paths[0] = memory.nothing;
                nodes[0] = memory.here;
                int at = from;
                while (at <= to && shell.signal == Shell.GOING && !shell.isSpent()) {
                    int end = at;
                    while (end < to && end < items.length && (!isSign(items[end]) || (items[end] & SIGN) != '/')) {
                        end++;
                    }
                    extendPaths(at, end, at == from, end < to);
                    at = end + 1;
                }
            }
            if (shell.signal == Shell.GOING && pathCount == 0) {
                addBounded(rowOf(from, to), first);
            } else if (shell.signal == Shell.GOING) {
                sortPaths();
                for (int i = 0; i < pathCount; i++) {
                    addBounded(paths[i], first);
                }
            }
        }

        private void addBounded(Row field, int first) {
            if (fieldTop - first >= MOST_FIELDS) {
                shell.fail();
            } else {
                addField(field);
            }
        }

        private boolean isPattern(int from, int to) {
            for (int i = from; i < to && i < items.length; i++) {
                int c = items[i] & ~SPLIT;
                if (c == '*' || c == '?' || c == '[') {
                    return true;
                }
            }
            return false;
        }

        // ---- path names ----

        /** The paths that match up to one more part; behind tells that a / follows. */
        private void extendPaths(int from, int to, boolean isFirst, boolean behind) {
            int old = pathCount;
            boolean pattern = isPattern(from, to);
            Row name = rowOf(from, to);
            if (pattern) {
                prepare(from, to);
                part++;
            }
            // No more paths are made than what shows that a bound is passed.
            int length = 0;
            for (int i = 0; i < old && pathCount - old <= MOST_PATHS && length <= MOST_PATH_SIGNS; i++) {
                Node node = nodes[i];
                if (name.length == 0) {
                    length += addPath(paths[i], isFirst, name, isFirst ? memory.root : node, behind);
                } else if (!pattern) {
                    length += addPath(paths[i], isFirst, name, node.step(name, 0, name.length), behind);
                } else {
                    Node n = node.first;
                    while (n != null && pathCount - old <= MOST_PATHS && length <= MOST_PATH_SIGNS) {
                        // Many paths may lead to a name: it is matched once.
                        if (n.part != part) {
                            walk(n.name, false);
                            n.part = part;
                            n.fits = longest == n.name.length && (n.name.at(0) != '.' || name.at(0) == '.');
                        }
                        if (n.fits) {
                            length += addPath(paths[i], isFirst, n.name, n, behind);
                        }
                        n = n.next;
                    }
                }
            }
            pathCount -= old;
            for (int i = 0; i < pathCount && old + i < paths.length && old + i < nodes.length; i++) {
                paths[i] = paths[old + i];
                nodes[i] = nodes[old + i];
            }
            if (pathCount > MOST_PATHS || length > MOST_PATH_SIGNS) {
                shell.work += TOO_MANY_PATHS;
                shell.fail();
            } else {
                shell.work += 8 * pathCount + length;
            }
        }

        /** A path comes to the others, if it leads to a directory where it must: how many signs it has, else 0. */
        private int addPath(Row ahead, boolean isFirst, Row name, Node node, boolean behind) {
            if (node == null || behind && !node.isDirectory()) {
                return 0;
            }
            if (pathCount >= paths.length || pathCount >= nodes.length) {
                Row[] rows = new Row[paths.length * 2];
                Node[] more = new Node[rows.length];
                for (int i = 0; i < paths.length && i < rows.length; i++) {
                    rows[i] = paths[i];
                }
                for (int i = 0; i < nodes.length && i < more.length; i++) {
                    more[i] = nodes[i];
                }
                paths = rows;
                nodes = more;
            }
            Row path = new Row(ahead.length + 1 + name.length);
            path.addRow(ahead);
            if (!isFirst) {
                path.add('/');
            }
            path.addRow(name);
            paths[pathCount] = path;
            nodes[pathCount] = node;
            pathCount++;
            return path.length;
        }

        /** The paths come nearly in order: each goes ahead of those behind it in the order of bytes. */
        private void sortPaths() {
            for (int i = 1; i < pathCount; i++) {
                Row path = paths[i];
                int at = i;
                while (at > 0 && paths[at - 1].order(path) > 0) {
                    paths[at] = paths[at - 1];
                    at--;
                }
                paths[at] = path;
            }
        }

        // ---- patterns ----

        /** Whether the items from a place on match a value as a pattern. */
        private boolean matches(int start, Row value) {
            prepare(start, top);
            walk(value, false);
            return longest == value.length;
        }

        /** Items become a pattern. */
        private void prepare(int from, int to) {
            int length = 0;
            if (pattern.length <= to - from) {
                pattern = new int[2 * (to - from)];
                elements = new int[pattern.length];
                reached = new int[pattern.length];
            }
            for (int i = from; i < to && i < items.length; i++) {
                if (isSign(items[i])) {
                    pattern[length] = items[i] & ~SPLIT;
                    length++;
                }
            }
            elementCount = 0;
            int at = 0;
            while (at < length) {
                elements[elementCount] = at;
                elementCount++;
                at = pattern[at] == '[' ? endOfSet(at, length) : at + 1;
            }
            elements[elementCount] = length;
        }

        /** The place behind the set that begins with this [ , or just behind it if no ] ends the set. */
        private int endOfSet(int at, int length) {
            int i = at + 1;
            if (i < length && pattern[i] == '!') {
                i++;
            }
            i++;
            while (i < length && pattern[i] != ']') {
                i++;
            }
            return i < length ? i + 1 : at + 1;
        }

        /**
         * How long the shortest and the longest beginning (or end) of a value is that the pattern matches. What is
         * reached lies from low to high: looking at no more is what keeps most patterns fast.
         */
        private void walk(Row value, boolean backwards) {
            shortest = NONE;
            longest = NONE;
            for (int j = 0; j <= elementCount && j < reached.length; j++) {
                reached[j] = 0;
            }
            reached[0] = 1;
            int low = 0;
            int high = passStars(0, 0, backwards);
            for (int i = 0; i <= value.length && low <= high; i++) {
                if (reached[elementCount] != 0) {
                    shortest = shortest == NONE ? i : shortest;
                    longest = i;
                }
                if (i < value.length) {
                    high = Math.min(high + 1, elementCount);
                    passSign(value.at(backwards ? value.length - 1 - i : i), low, high, backwards);
                    while (low <= high && reached[low] == 0) {
                        low++;
                    }
                    while (high > low && reached[high] == 0) {
                        high--;
                    }
                    high = passStars(low, high, backwards);
                }
            }
        }

        private int element(int j, boolean backwards) {
            return backwards ? elementCount - 1 - j : j;
        }

        private boolean isStar(int element) {
            int at = element >= 0 && element < elements.length ? elements[element] : NONE;
            return at >= 0 && at < pattern.length && pattern[at] == '*';
        }

        /** A star may stand for nothing. The highest element that is reached then. */
        private int passStars(int low, int high, boolean backwards) {
            int last = high;
            for (int j = low; j <= last && j < elementCount; j++) {
                if (reached[j] != 0 && isStar(element(j, backwards))) {
                    reached[j + 1] = 1;
                    last = Math.max(last, j + 1);
                }
            }
            return last;
        }

        private void passSign(int sign, int low, int high, boolean backwards) {
            for (int j = high; j >= low; j--) {
                boolean stays = j < elementCount && reached[j] != 0 && isStar(element(j, backwards));
                boolean comes = false;
                if (j > low && reached[j - 1] != 0) {
                    int element = element(j - 1, backwards);
                    comes = !isStar(element) && fits(element, sign);
                }
                reached[j] = stays || comes ? 1 : 0;
            }
        }

        /** Whether an element (a sign, ? or a set) stands for a sign. */
        private boolean fits(int element, int sign) {
            if (element < 0 || element + 1 >= elements.length) {
                return false;
            }
            int from = elements[element];
            int to = elements[element + 1] - 1;
            if (from < 0 || to < from || to >= pattern.length) {
                return false;
            }
            if (to == from) {
                return pattern[from] == '?' || (pattern[from] & SIGN) == sign;
            }
            boolean not = pattern[from + 1] == '!';
            boolean found = false;
            int i = not ? from + 2 : from + 1;
            while (i < to) {
                int low = pattern[i] & SIGN;
                int high = low;
                if (i + 2 < to && pattern[i + 1] == '-') {
                    high = pattern[i + 2] & SIGN;
                    i += 2;
                }
                found = found || sign >= low && sign <= high;
                i++;
            }
            return found != not;
        }
    }

    /** Reckons the text of an arithmetic, with a stack of numbers and one of what waits for its right side. */
    private static final class Sum {
        private static final int ROOM = 1024;
        private static final int WIDTH = 5;
        private static final int MOST_NESTED = 40;

        // Entries of the stack, the tighter the higher; those up to ELSE have a rule of their own.
        private static final int PARENS = 1;
        private static final int ASK = 2;
        private static final int SET = 3;
        private static final int ELSE = 4;
        private static final int EITHER = 5;
        private static final int BOTH = 6;
        private static final int BIT_OR = 7;
        private static final int BIT_XOR = 8;
        private static final int BIT_AND = 9;
        private static final int EQUAL = 10;
        private static final int UNEQUAL = 11;
        private static final int BELOW = 12;
        private static final int UP_TO = 13;
        private static final int ABOVE = 14;
        private static final int FROM = 15;
        private static final int LEFT = 16;
        private static final int RIGHT = 17;
        private static final int ADD = 18;
        private static final int SUBTRACT = 19;
        private static final int TIMES = 20;
        private static final int DIVIDE = 21;
        private static final int REST = 22;
        private static final int KEEP = 23;
        private static final int NEGATE = 24;
        private static final int NOT = 25;
        private static final int INVERT = 26;
        // Signs that are no entries.
        private static final int SHUT = 27;
        private static final int DONE = 28;
        private static final int BAD = 29;
        // An assignment: this, and the operator that goes with it (0 without).
        private static final int ASSIGN = 32;

        private final Memory memory;
        private final long[] numbers = new long[ROOM];
        private int numberTop;
        // Each entry: what it is, whether things were live ahead of it, a name's place, an operator.
        private final int[] entries = new int[ROOM * WIDTH];
        private int entryTop;
        private Row text;
        private int at;
        private final Row spelled = new Row(16);
        // Whether what is read now is reckoned.
        private boolean live;
        private int nested;
        private boolean wrong;

        private Sum(Memory memory) {
            this.memory = memory;
        }

        private long reckon(Row text) {
            this.text = text;
            at = 0;
            numberTop = 0;
            entryTop = 0;
            nested = 0;
            live = true;
            wrong = false;
            skipBlanks();
            if (at >= text.length) {
                return 0;
            }
            boolean operand = true;
            boolean done = false;
            for (int i = 0; i <= 2 * text.length + 2 && !done && !wrong; i++) {
                if (operand) {
                    operand = readOperand();
                } else {
                    int operator = operator();
                    done = operator == DONE;
                    operand = operator != SHUT;
                    takeOperator(operator);
                }
            }
            return wrong || numberTop != 1 ? 0 : numbers[0];
        }

        private void skipBlanks() {
            while (text.at(at) == ' ' || text.at(at) == '\t' || text.at(at) == '\n') {
                at++;
            }
        }

        private void pushNumber(long number) {
            if (numberTop >= ROOM) {
                wrong = true;
            } else {
                numbers[numberTop] = number;
                numberTop++;
            }
        }

        private long popNumber() {
            if (numberTop <= 0) {
                wrong = true;
                return 0;
            }
            numberTop--;
            return numbers[numberTop];
        }

        private void pushEntry(int kind, int from, int to, int operator) {
            if (entryTop >= ROOM || nests(kind) && nested >= MOST_NESTED) {
                wrong = true;
                return;
            }
            nested += nests(kind) ? 1 : 0;
            int base = entryTop * WIDTH;
            entries[base] = kind;
            entries[base + 1] = live ? 1 : 0;
            entries[base + 2] = from;
            entries[base + 3] = to;
            entries[base + 4] = operator;
            entryTop++;
        }

        private static boolean nests(int kind) {
            return kind <= ELSE || kind >= KEEP;
        }

        private int topKind() {
            return entryTop > 0 ? entries[(entryTop - 1) * WIDTH] : 0;
        }

        /** A number, a name, a sign or a ( : whether another operand is due then. */
        private boolean readOperand() {
            skipBlanks();
            int c = text.at(at);
            if (isDigit(c)) {
                pushNumber(digits(text));
                return false;
            }
            if (beginsName(c)) {
                return readName();
            }
            int kind = c == '(' ? PARENS : c == '+' ? KEEP : c == '-' ? NEGATE : c == '!' ? NOT
                : c == '~' ? INVERT : BAD;
            if (kind == BAD) {
                wrong = true;
                return true;
            }
            at++;
            pushEntry(kind, 0, 0, 0);
            return true;
        }

        /** A name: one that is assigned to waits for its value. */
        private boolean readName() {
            int from = at;
            while (isNameSign(text.at(at))) {
                at++;
            }
            int to = at;
            int kind = topKind();
            boolean mayBeSet = kind <= SET;
            int operator = operator();
            if (mayBeSet && operator >= ASSIGN) {
                pushEntry(SET, from, to, operator - ASSIGN);
                return true;
            }
            at = to;
            pushNumber(live ? valueOf(memory.find(spell(from, to))) : 0);
            return false;
        }

        private Row spell(int from, int to) {
            spelled.length = 0;
            spelled.addPart(text, from, to);
            return spelled;
        }

        /** A variable's value as a number. */
        private long valueOf(Name name) {
            Row value = name == null ? null : name.value;
            if (value == null || value.length == 0) {
                return 0;
            }
            boolean negative = value.at(0) == '-';
            int kept = at;
            at = negative ? 1 : 0;
            wrong = wrong || !isDigit(value.at(at));
            long number = digits(value);
            wrong = wrong || at != value.length;
            at = kept;
            return negative ? -number : number;
        }

        /** The number whose digits begin here: decimal, octal or hexadecimal. */
        private long digits(Row row) {
            long base = 10;
            if (row.at(at) == '0') {
                boolean hex = (row.at(at + 1) == 'x' || row.at(at + 1) == 'X') && hexDigit(row.at(at + 2)) < 16;
                base = hex ? 16 : 8;
                at += hex ? 2 : 1;
            }
            long number = 0;
            while (hexDigit(row.at(at)) < base) {
                number = number * base + hexDigit(row.at(at));
                at++;
            }
            return number;
        }

        private static int hexDigit(int c) {
            if (c >= '0' && c <= '9') {
                return c - '0';
            }
            if (c >= 'a' && c <= 'f') {
                return c - 'a' + 10;
            }
            return c >= 'A' && c <= 'F' ? c - 'A' + 10 : 99;
        }

        /** The longest operator that begins here. */
        private int operator() {
            skipBlanks();
            int c = text.at(at);
            at += c == NONE ? 0 : 1;
            switch (c) {
                case NONE:
                    return DONE;
                case ')':
                    return SHUT;
                case '?':
                    return ASK;
                case ':':
                    return ELSE;
                case '=':
                    return passIf('=') ? EQUAL : ASSIGN;
                case '!':
                    return passIf('=') ? UNEQUAL : BAD;
                case '<':
                    return passIf('<') ? orAssign(LEFT) : passIf('=') ? UP_TO : BELOW;
                case '>':
                    return passIf('>') ? orAssign(RIGHT) : passIf('=') ? FROM : ABOVE;
                case '&':
                    return passIf('&') ? BOTH : orAssign(BIT_AND);
                case '|':
                    return passIf('|') ? EITHER : orAssign(BIT_OR);
                case '^':
                    return orAssign(BIT_XOR);
                case '+':
                    return orAssign(ADD);
                case '-':
                    return orAssign(SUBTRACT);
                case '*':
                    return orAssign(TIMES);
                case '/':
                    return orAssign(DIVIDE);
                case '%':
                    return orAssign(REST);
                default:
                    return BAD;
            }
        }

        private boolean passIf(int c) {
            if (text.at(at) != c) {
                return false;
            }
            at++;
            return true;
        }

        private int orAssign(int operator) {
            return passIf('=') ? ASSIGN + operator : operator;
        }

        private static int tightness(int kind) {
            switch (kind) {
                case EQUAL:
                case UNEQUAL:
                    return EQUAL;
                case BELOW:
                case UP_TO:
                case ABOVE:
                case FROM:
                    return BELOW;
                case LEFT:
                case RIGHT:
                    return LEFT;
                case ADD:
                case SUBTRACT:
                    return ADD;
                case TIMES:
                case DIVIDE:
                case REST:
                    return TIMES;
                default:
                    return kind;
            }
        }

        private void takeOperator(int operator) {
            if (operator >= BAD) {
                // What stands whole ahead of the wrong sign was reckoned before that sign was met.
                reduce(ASK);
                wrong = true;
            } else if (operator == DONE) {
                reduce(ASK);
                wrong = wrong || entryTop > 0;
            } else if (operator == SHUT) {
                reduce(ASK);
                wrong = wrong || topKind() != PARENS;
                popEntry();
            } else if (operator == ASK) {
                reduce(ELSE);
                boolean first = peekNumber() != 0;
                pushEntry(ASK, 0, 0, 0);
                live = live && first;
            } else if (operator == ELSE) {
                reduce(ASK);
                turnToElse();
            } else {
                reduce(tightness(operator) - 1);
                boolean left = peekNumber() != 0;
                pushEntry(operator, 0, 0, 0);
                live = live && (operator == BOTH ? left : operator != EITHER || !left);
            }
        }

        private long peekNumber() {
            return numberTop > 0 ? numbers[numberTop - 1] : 0;
        }

        private void turnToElse() {
            if (topKind() != ASK || numberTop < 2) {
                wrong = true;
                return;
            }
            int base = (entryTop - 1) * WIDTH;
            entries[base] = ELSE;
            live = entries[base + 1] != 0 && numbers[numberTop - 2] == 0;
        }

        private void popEntry() {
            if (entryTop > 0) {
                nested -= nests(topKind()) ? 1 : 0;
                entryTop--;
            }
        }

        /** All entries that are tighter than this one are reckoned. */
        private void reduce(int loosest) {
            while (entryTop > 0 && !wrong && tightness(topKind()) > loosest) {
                int base = (entryTop - 1) * WIDTH;
                int kind = entries[base];
                live = entries[base + 1] != 0;
                if (kind >= KEEP) {
                    pushNumber(unary(kind, popNumber()));
                } else if (kind == SET) {
                    set(base);
                } else if (kind == ELSE) {
                    long second = popNumber();
                    long first = popNumber();
                    pushNumber(popNumber() != 0 ? first : second);
                } else {
                    long right = popNumber();
                    pushNumber(binary(kind, popNumber(), right));
                }
                popEntry();
            }
        }

        private static long unary(int kind, long number) {
            switch (kind) {
                case NEGATE:
                    return -number;
                case NOT:
                    return number == 0 ? 1 : 0;
                case INVERT:
                    return ~number;
                default:
                    return number;
            }
        }

        /** A name gets its value; with an operator, the one from its own and that of the right side. */
        private void set(int base) {
            long value = popNumber();
            int operator = entries[base + 4];
            if (live) {
                Name name = memory.name(spell(entries[base + 2], entries[base + 3]));
                if (operator != 0) {
                    value = binary(operator, valueOf(name), value);
                }
                if (!wrong) {
                    Row row = new Row(20);
                    row.addNumber(value);
                    wrong = !memory.assign(name, row);
                }
            }
            pushNumber(value);
        }

        private long binary(int kind, long a, long b) {
            switch (kind) {
                case EITHER:
                    return a != 0 || b != 0 ? 1 : 0;
                case BOTH:
                    return a != 0 && b != 0 ? 1 : 0;
                case BIT_OR:
                    return a | b;
                case BIT_XOR:
                    return a ^ b;
                case BIT_AND:
                    return a & b;
                case EQUAL:
                    return a == b ? 1 : 0;
                case UNEQUAL:
                    return a != b ? 1 : 0;
                case BELOW:
                    return a < b ? 1 : 0;
                case UP_TO:
                    return a <= b ? 1 : 0;
                case ABOVE:
                    return a > b ? 1 : 0;
                case FROM:
                    return a >= b ? 1 : 0;
                case LEFT:
                    return a << (b & 63);
                case RIGHT:
                    return a >> (b & 63);
                case ADD:
                    return a + b;
                case SUBTRACT:
                    return a - b;
                case TIMES:
                    return a * b;
                default:
                    return divide(kind, a, b);
            }
        }

        /** What is not needed is divided by anything. */
        private long divide(int kind, long a, long b) {
            if (b == 0) {
                wrong = wrong || live;
                return 0;
            }
            return kind == DIVIDE ? a / b : a % b;
        }
    }

    /** The commands that are no special ones. Each answers its status. */
    private static final class Tools {
        private static final int WRONG = 2;
        private static final int MOST_NUMBERS = 10000;
        // Of a walk over what a word of tr tells: the place in the word, the next and the last sign of an open
        // range, the sign behind it. Three signs of a word tell 118 at most.
        private static final int PLACE = 0;
        private static final int NEXT = 1;
        private static final int LAST = 2;
        private static final int BEHIND = 3;
        private static final int MOST_SPELLED = 1000000;
        private final Memory memory;
        private final Shell shell;
        private final Expander expander;
        // What was read, where its lines begin, and the order that they have been brought in.
        private final Row text = new Row(64);
        // What is to be written once the command is through.
        private final Row made = new Row(64);
        private int[] lines = new int[64];
        private int[] order = new int[64];
        private int[] spare = new int[64];
        private int lineCount;
        private final Row from = new Row(32);
        private final int[] table = new int[256];
        private final boolean[] known = new boolean[256];
        private final int[] walkA = new int[4];
        private final int[] walkB = new int[4];
        // The words behind the command's name.
        private int first;
        private int words;
        private boolean numeric;
        private boolean reverse;

        private Tools(Memory memory, Shell shell, Expander expander) {
            this.memory = memory;
            this.shell = shell;
            this.expander = expander;
        }

        private Row word(int i) {
            return expander.field(i >= 0 && i < words ? first + i : NONE);
        }

        /** A command with these fields is about to run. */
        private void begin(int first, int words) {
            this.first = first;
            this.words = words;
            made.length = 0;
        }

        private int work(int command) {
            switch (command) {
                case C_TRUE:
                    return 0;
                case C_FALSE:
                    return 1;
                case C_ECHO:
                    return echo();
                case C_PRINTF:
                    return printf();
                case C_TEST:
                    return test(0, words);
                case C_BRACKET:
                    return word(words - 1).is("]") ? test(0, words - 1) : WRONG;
                case C_READ:
                    return readNames();
                case C_CD:
                    return cd();
                case C_PWD:
                    return pwd();
                case C_ALIAS:
                    return alias();
                default:
                    return unalias();
            }
        }

        private int filter(int command) {
            switch (command) {
                case C_CAT:
                    return cat();
                case C_WC:
                    return wc();
                case C_HEAD:
                    return ends(true);
                case C_TAIL:
                    return ends(false);
                case C_SORT:
                    return sort();
                case C_UNIQ:
                    return uniq();
                case C_TR:
                    return tr();
                case C_CUT:
                    return cut();
                case C_GREP:
                    return grep();
                default:
                    return seq();
            }
        }

        private int files(int command) {
            switch (command) {
                case C_LS:
                    return ls();
                case C_CP:
                    return copy();
                case C_MV:
                    return move();
                default:
                    break;
            }
            int status = words == 0 ? WRONG : 0;
            for (int i = 0; i < words; i++) {
                Row path = word(i);
                boolean fine = command == C_MKDIR ? memory.here.make(path, true) != null
                    : command == C_RM ? remove(path)
                    : memory.here.find(path) != null || memory.here.make(path, false) != null;
                status = fine ? status : 1;
            }
            return status;
        }

        // ---- what is written and read ----

        /** More than WORK allows is never written. */
        private void tell(int sign) {
            if (made.length < Shell.MOST_WORK) {
                made.add(sign);
            }
        }

        private void tellRow(Row row) {
            for (int i = 0; i < row.length; i++) {
                tell(row.at(i));
            }
        }

        private void tellNumber(long number) {
            if (made.length < Shell.MOST_WORK) {
                made.addNumber(number);
            }
        }

        /** A part of the text as a line. */
        private void tellPart(int start, int end) {
            for (int i = start; i < end; i++) {
                tell(text.at(i));
            }
            tell('\n');
        }

        private void tellLine(int line) {
            tellPart(lineAt(line), lineAt(line + 1) - 1);
        }

        /** Where a line begins. */
        private int lineAt(int line) {
            return line >= 0 && line < lines.length ? lines[line] : 0;
        }

        /** Reads the files that are told from a word on, or the input: 1 if one is not there. */
        private int takeAll(int word) {
            int status = 0;
            text.length = 0;
            if (word >= words) {
                int c = shell.take();
                for (int i = 0; i < Shell.MOST_WORK && c != NONE; i++) {
                    text.add(c);
                    c = shell.take();
                }
            }
            for (int i = word; i < words; i++) {
                status = shell.readFile(text, word(i)) ? status : 1;
            }
            return status;
        }

        /** Where the lines of the text begin; one more entry tells where the next one would. */
        private void findLines() {
            lineCount = 0;
            int at = 0;
            while (at < text.length) {
                noteLine(at);
                lineCount++;
                at = text.place('\n', at, text.length) + 1;
            }
            noteLine(Math.max(at, 1));
        }

        private void noteLine(int at) {
            if (lineCount >= lines.length) {
                int[] more = new int[lines.length * 2];
                System.arraycopy(lines, 0, more, 0, lines.length);
                lines = more;
            }
            lines[lineCount] = at;
        }

        // ---- echo, printf, test, read ----

        private int echo() {
            boolean bare = words > 0 && word(0).is("-n");
            int start = bare ? 1 : 0;
            for (int i = start; i < words; i++) {
                if (i > start) {
                    tell(' ');
                }
                tellRow(word(i));
            }
            if (!bare) {
                tell('\n');
            }
            return 0;
        }

        /** Goes through the format as often as words are left and it takes some. */
        private int printf() {
            int next = 1;
            boolean again = true;
            for (int round = 0; round <= words && again; round++) {
                int after = words > 0 ? format(next) : NONE;
                if (after < 0) {
                    made.length = 0;
                    return WRONG;
                }
                again = after > next && after < words;
                next = after;
            }
            return 0;
        }

        /** One time through the format: the word behind those that it took, or NONE if it is wrong. */
        private int format(int firstWord) {
            Row format = word(0);
            int next = firstWord;
            int i = 0;
            while (i < format.length) {
                int c = format.at(i);
                int d = format.at(i + 1);
                i += 2;
                if (c == '%' && d == '%') {
                    tell('%');
                } else if (c == '%') {
                    if (!converts(d, word(next), next < words)) {
                        return NONE;
                    }
                    next++;
                } else if (c == '\\' && (d == 'n' || d == 't' || d == '\\')) {
                    tell(d == 'n' ? '\n' : d == 't' ? '\t' : '\\');
                } else {
                    tell(c);
                    i--;
                }
            }
            return next;
        }

        private boolean converts(int how, Row word, boolean there) {
            if (how == 'd') {
                if (there && !word.isNumber()) {
                    return false;
                }
                tellNumber(there ? word.number() : 0);
                return true;
            }
            if (how == 's') {
                tellRow(word);
            } else if (how == 'c' && word.length > 0) {
                tell(word.at(0));
            }
            return how == 's' || how == 'c';
        }

        private int test(int at, int n) {
            switch (n) {
                case 0:
                    return 1;
                case 1:
                    return word(at).length > 0 ? 0 : 1;
                case 2:
                    return word(at).is("!") ? not(test(at + 1, 1)) : testOne(word(at), word(at + 1));
                case 3:
                    int result = testTwo(word(at), word(at + 1), word(at + 2));
                    return result != NONE ? result : word(at).is("!") ? not(test(at + 1, 2)) : WRONG;
                case 4:
                    return word(at).is("!") ? not(test(at + 1, 3)) : WRONG;
                default:
                    return WRONG;
            }
        }

        private static int not(int status) {
            return status == 0 ? 1 : status == 1 ? 0 : status;
        }

        private int testOne(Row how, Row word) {
            if (how.is("-n") || how.is("-z")) {
                return word.length > 0 == how.is("-n") ? 0 : 1;
            }
            if (!how.is("-e") && !how.is("-f") && !how.is("-d")) {
                return WRONG;
            }
            Node node = memory.here.find(word);
            return node != null && (how.is("-e") || node.isDirectory() == how.is("-d")) ? 0 : 1;
        }

        /** NONE if the word between is no comparison. */
        private static int testTwo(Row a, Row how, Row b) {
            if (how.is("=") || how.is("!=")) {
                return a.same(b) == how.is("=") ? 0 : 1;
            }
            boolean below = how.is("-lt") || how.is("-le") || how.is("-ne");
            boolean equal = how.is("-eq") || how.is("-le") || how.is("-ge");
            boolean above = how.is("-gt") || how.is("-ge") || how.is("-ne");
            if (!below && !equal && !above) {
                return NONE;
            }
            if (!a.isNumber() || !b.isNumber()) {
                return WRONG;
            }
            int order = Long.compare(a.number(), b.number());
            return order < 0 && below || order == 0 && equal || order > 0 && above ? 0 : 1;
        }

        /** The line is split as a whole before a name gets its part: IFS may be one of the names. */
        private int readNames() {
            int start = firstName();
            if (start < 0) {
                return WRONG;
            }
            boolean whole = takeLine(start > 0);
            Row[] parts = new Row[Math.max(0, words - start)];
            int at = behindBlanks(0);
            for (int i = 0; i < parts.length; i++) {
                int end = i + 1 < parts.length ? endOfPart(at) : endOfLine(at);
                parts[i] = signs(at, end);
                at = behindBlanks(end);
                if (end < text.length && kindAt(at) == Expander.OTHER) {
                    at = behindBlanks(at + 1);
                }
            }
            for (int i = 0; i < parts.length; i++) {
                if (!memory.assign(memory.name(word(start + i)), parts[i])) {
                    shell.fail();
                    return WRONG;
                }
            }
            return whole ? 0 : 1;
        }

        /** The first word behind -r, if words are left and all of them are names; else NONE. */
        private int firstName() {
            int start = 0;
            while (start < words && word(start).is("-r")) {
                start++;
            }
            for (int i = start; i < words; i++) {
                if (!word(i).isName()) {
                    return NONE;
                }
            }
            return start < words ? start : NONE;
        }

        /** A line of the input, quoted signs with QUOTED: false at the end. */
        private boolean takeLine(boolean raw) {
            text.length = 0;
            int c = shell.take();
            for (int i = 0; i < Shell.MOST_WORK && c != NONE && c != '\n'; i++) {
                if (c == '\\' && !raw) {
                    c = shell.take();
                    if (c != NONE && c != '\n') {
                        text.add(c | QUOTED);
                    }
                    c = c == NONE ? NONE : shell.take();
                } else {
                    text.add(c);
                    c = shell.take();
                }
            }
            return c == '\n';
        }

        private int kindAt(int i) {
            int c = text.at(i);
            return c == NONE || c > SIGN ? 0 : expander.separator(c);
        }

        private int behindBlanks(int at) {
            int i = at;
            while (kindAt(i) == Expander.BLANK) {
                i++;
            }
            return i;
        }

        private int endOfPart(int at) {
            int end = at;
            while (end < text.length && kindAt(end) == 0) {
                end++;
            }
            return end;
        }

        private int endOfLine(int at) {
            int end = text.length;
            while (end > at && kindAt(end - 1) == Expander.BLANK) {
                end--;
            }
            return end;
        }

        private Row signs(int start, int end) {
            if (end <= start) {
                return memory.nothing;
            }
            Row row = new Row(end - start);
            for (int i = start; i < end; i++) {
                row.add(text.at(i) & SIGN);
            }
            return row;
        }

        // ---- the directory, aliases ----

        private int cd() {
            if (words > 1) {
                return WRONG;
            }
            Row path = words == 1 ? word(0) : memory.home.value;
            Node node = path == null ? null : memory.here.find(path);
            if (node == null || !node.isDirectory()) {
                return 1;
            }
            memory.here = node;
            return 0;
        }

        private int pwd() {
            if (words > 0) {
                return WRONG;
            }
            int depth = 0;
            for (Node n = memory.here; n.parent != null; n = n.parent) {
                depth++;
            }
            if (depth == 0) {
                tell('/');
            }
            for (int i = depth; i > 0; i--) {
                Node n = memory.here;
                for (int up = 1; up < i && n.parent != null; up++) {
                    n = n.parent;
                }
                tell('/');
                tellRow(n.name);
            }
            tell('\n');
            return 0;
        }

        private int alias() {
            int status = 0;
            for (int i = 0; i < words; i++) {
                Row word = word(i);
                int end = word.place('=', 0, word.length);
                if (end == word.length) {
                    Name name = memory.find(word);
                    status = name == null || name.alias == null ? 1 : status;
                } else {
                    Row value = word.part(end + 1, word.length);
                    if (word.isNameUpTo(end) && value.isAliasText()) {
                        Name name = memory.name(word.part(0, end));
                        memory.remember(name);
                        name.alias = value;
                    } else {
                        status = 1;
                    }
                }
            }
            return status;
        }

        private int unalias() {
            int status = words == 0 ? WRONG : 0;
            for (int i = 0; i < words; i++) {
                Name name = memory.find(word(i));
                if (name == null || name.alias == null) {
                    status = 1;
                } else {
                    memory.remember(name);
                    name.alias = null;
                }
            }
            return status;
        }

        // ---- filters ----

        private int cat() {
            int status = takeAll(0);
            tellRow(text);
            return status;
        }

        private int wc() {
            Row how = word(0);
            if (!how.is("-l") && !how.is("-w") && !how.is("-c")) {
                return WRONG;
            }
            int status = takeAll(1);
            int found = 0;
            boolean within = false;
            for (int i = 0; i < text.length; i++) {
                int c = text.at(i);
                boolean blank = c == ' ' || c == '\t' || c == '\n';
                boolean counts = how.is("-l") ? c == '\n' : how.is("-c") || !blank && !within;
                found += counts ? 1 : 0;
                within = !blank;
            }
            tellNumber(found);
            tell('\n');
            return status;
        }

        private int ends(boolean head) {
            long most = 10;
            int start = 0;
            if (word(0).is("-n")) {
                if (!word(1).isNumber() || word(1).number() < 0) {
                    return WRONG;
                }
                most = word(1).number();
                start = 2;
            }
            int status = takeAll(start);
            findLines();
            int begin = head ? 0 : (int) Math.max(0, lineCount - most);
            int end = head ? (int) Math.min(lineCount, most) : lineCount;
            for (int i = begin; i < end; i++) {
                tellLine(i);
            }
            return status;
        }

        private int sort() {
            numeric = false;
            reverse = false;
            boolean once = false;
            int start = 0;
            boolean option = true;
            while (option && start < words) {
                Row word = word(start);
                option = word.is("-r") || word.is("-n") || word.is("-u");
                reverse = reverse || word.is("-r");
                numeric = numeric || word.is("-n");
                once = once || word.is("-u");
                start += option ? 1 : 0;
            }
            int status = takeAll(start);
            findLines();
            sortLines();
            for (int i = 0; i < lineCount; i++) {
                if (!once || i == 0 || orderBytes(order[i - 1], order[i]) != 0) {
                    tellLine(order[i]);
                }
            }
            return status;
        }

        /** Rows of one line, two, four .. that are in order are put together. */
        private void sortLines() {
            if (order.length < lineCount) {
                order = new int[2 * lineCount];
                spare = new int[order.length];
            }
            for (int i = 0; i < lineCount; i++) {
                order[i] = i;
            }
            for (int width = 1; width < lineCount; width *= 2) {
                for (int at = 0; at < lineCount; at += 2 * width) {
                    merge(at, Math.min(at + width, lineCount), Math.min(at + 2 * width, lineCount));
                }
                int[] merged = spare;
                spare = order;
                order = merged;
            }
        }

        private void merge(int start, int middle, int end) {
            int a = start;
            int b = middle;
            for (int i = start; i < end && i < spare.length && end <= order.length; i++) {
                boolean left = b >= end || a < middle && compare(order[a], order[b]) <= 0;
                spare[i] = left ? order[a] : order[b];
                a += left ? 1 : 0;
                b += left ? 0 : 1;
            }
        }

        private int compare(int a, int b) {
            int found = numeric ? Long.compare(numberOf(a), numberOf(b)) : 0;
            found = found == 0 ? orderBytes(a, b) : found;
            return reverse ? -found : found;
        }

        private int orderBytes(int a, int b) {
            int startA = lineAt(a);
            int startB = lineAt(b);
            int lengthA = lineAt(a + 1) - 1 - startA;
            int lengthB = lineAt(b + 1) - 1 - startB;
            for (int i = 0; i < lengthA && i < lengthB; i++) {
                int difference = text.at(startA + i) - text.at(startB + i);
                if (difference != 0) {
                    return difference;
                }
            }
            return lengthA - lengthB;
        }

        /** The number behind the blanks of a line. */
        private long numberOf(int line) {
            int i = lineAt(line);
            while (text.at(i) == ' ' || text.at(i) == '\t') {
                i++;
            }
            boolean negative = text.at(i) == '-';
            i += negative ? 1 : 0;
            long number = 0;
            for (int digits = 0; digits < 18 && isDigit(text.at(i)); digits++) {
                number = number * 10 + (text.at(i) - '0');
                i++;
            }
            return negative ? -number : number;
        }

        private int uniq() {
            boolean counts = word(0).is("-c");
            if (words > (counts ? 1 : 0)) {
                return WRONG;
            }
            takeAll(words);
            findLines();
            int begin = 0;
            for (int i = 0; i < lineCount; i++) {
                if (i + 1 == lineCount || orderBytes(i, i + 1) != 0) {
                    if (counts) {
                        tellNumber(i + 1 - begin);
                        tell(' ');
                    }
                    tellLine(i);
                    begin = i + 1;
                }
            }
            return 0;
        }

        private int tr() {
            boolean deletes = word(0).is("-d");
            if (words != 2) {
                return WRONG;
            }
            if (!deletes && word(1).length == 0) {
                return WRONG;
            }
            spellTable(word(deletes ? 1 : 0), deletes ? null : word(1));
            takeAll(words);
            for (int i = 0; i < text.length; i++) {
                int c = table[text.at(i) & SIGN];
                if (c != NONE) {
                    tell(c);
                }
            }
            return 0;
        }

        /** What becomes of each sign: the one at the same place of b, or b's last one; NONE without b. */
        private void spellTable(Row a, Row b) {
            for (int i = 0; i < table.length; i++) {
                table[i] = i;
                known[i] = false;
            }
            startSpelling(walkA);
            startSpelling(walkB);
            int becomes = NONE;
            int c = spellNext(a, walkA);
            for (int i = 0; i < MOST_SPELLED && c != NONE; i++) {
                int next = b == null ? NONE : spellNext(b, walkB);
                becomes = next == NONE ? becomes : next;
                if (!known[c & SIGN]) {
                    known[c & SIGN] = true;
                    table[c & SIGN] = becomes;
                }
                c = spellNext(a, walkA);
            }
        }

        private static void startSpelling(int[] walk) {
            walk[PLACE] = 0;
            walk[NEXT] = 1;
            walk[LAST] = 0;
            walk[BEHIND] = NONE;
        }

        /** The next sign that a word of tr tells, with its ranges and its \n \t \\ ; NONE behind the last one. */
        private static int spellNext(Row word, int[] walk) {
            if (walk[NEXT] <= walk[LAST]) {
                walk[NEXT]++;
                return walk[NEXT] - 1;
            }
            if (walk[BEHIND] != NONE) {
                int behind = walk[BEHIND];
                walk[BEHIND] = NONE;
                return behind;
            }
            int i = walk[PLACE];
            if (i >= word.length) {
                return NONE;
            }
            int low = spelled(word, i);
            i += width(word, i);
            if (word.at(i) == '-' && i + 1 < word.length) {
                int high = spelled(word, i + 1);
                boolean falls = high < low;
                walk[NEXT] = falls ? '-' : low + 1;
                walk[LAST] = falls ? '-' : high;
                walk[BEHIND] = falls ? high : NONE;
                i += 1 + width(word, i + 1);
            }
            walk[PLACE] = i;
            return low;
        }

        private static int width(Row word, int i) {
            int next = word.at(i + 1);
            return word.at(i) == '\\' && (next == 'n' || next == 't' || next == '\\') ? 2 : 1;
        }

        private static int spelled(Row word, int i) {
            if (width(word, i) == 1) {
                return word.at(i);
            }
            int next = word.at(i + 1);
            return next == 'n' ? '\n' : next == 't' ? '\t' : '\\';
        }

        private int cut() {
            boolean told = word(0).is("-d") && word(1).length == 1 && word(2).is("-f") && word(3).isNumber();
            if (!told || word(3).number() < 1) {
                return WRONG;
            }
            int sign = word(1).at(0);
            long field = word(3).number();
            int status = takeAll(4);
            findLines();
            for (int i = 0; i < lineCount; i++) {
                int end = lineAt(i + 1) - 1;
                int start = lineAt(i);
                int stop = text.place(sign, start, end);
                if (stop < end) {
                    for (long k = 1; k < field && start <= end; k++) {
                        start = stop + 1;
                        stop = text.place(sign, start, end);
                    }
                    end = stop;
                }
                tellPart(start, end);
            }
            return status;
        }

        private int grep() {
            boolean counts = false;
            boolean without = false;
            int start = 0;
            while (start < words && (word(start).is("-v") || word(start).is("-c"))) {
                without = without || word(start).is("-v");
                counts = counts || word(start).is("-c");
                start++;
            }
            if (start >= words) {
                return WRONG;
            }
            Row sought = word(start);
            int status = takeAll(start + 1);
            findLines();
            int found = 0;
            for (int i = 0; i < lineCount; i++) {
                if (has(i, sought) != without) {
                    found++;
                    if (!counts) {
                        tellLine(i);
                    }
                }
            }
            if (counts) {
                tellNumber(found);
                tell('\n');
            }
            return found == 0 ? 1 : status;
        }

        private boolean has(int line, Row sought) {
            int last = lineAt(line + 1) - 1 - sought.length;
            for (int at = lineAt(line); at <= last; at++) {
                int i = 0;
                while (i < sought.length && text.at(at + i) == sought.at(i)) {
                    i++;
                }
                if (i == sought.length) {
                    return true;
                }
            }
            return false;
        }

        private int seq() {
            if (words != 2 || !word(0).isNumber() || !word(1).isNumber()) {
                return WRONG;
            }
            long low = word(0).number();
            long high = word(1).number();
            if (high - low >= MOST_NUMBERS) {
                return WRONG;
            }
            for (long i = low; i <= high; i++) {
                tellNumber(i);
                tell('\n');
            }
            return 0;
        }

        // ---- files ----

        private int ls() {
            if (words > 1) {
                return WRONG;
            }
            Node node = words == 0 ? memory.here : memory.here.find(word(0));
            if (node == null) {
                return 1;
            }
            if (!node.isDirectory()) {
                tellRow(word(0));
                tell('\n');
            }
            for (Node n = node.first; n != null; n = n.next) {
                tellRow(n.name);
                tell('\n');
            }
            return 0;
        }

        private boolean remove(Row path) {
            Node node = memory.here.find(path);
            if (node == null || node.isDirectory()) {
                return false;
            }
            node.remove();
            return true;
        }

        /** Where cp and mv lead to: a path in the directory that is told, or the path itself. */
        private Row goal(Row path, Row name) {
            Node node = memory.here.find(path);
            if (node == null || !node.isDirectory()) {
                return path;
            }
            Row goal = path.part(0, path.length);
            goal.add('/');
            goal.addRow(name);
            return goal;
        }

        private int copy() {
            if (words != 2) {
                return WRONG;
            }
            boolean nothing = word(0).isNullDevice();
            Node source = nothing ? null : memory.here.find(word(0));
            if (!nothing && (source == null || source.isDirectory())) {
                return 1;
            }
            from.length = 0;
            from.addText("null");
            Row path = goal(word(1), source == null ? from : source.name);
            Node target = memory.here.find(path);
            target = target == null ? memory.here.make(path, false) : target;
            if (target == null || target == source || target.isDirectory()) {
                return 1;
            }
            text.length = 0;
            shell.readFile(text, word(0));
            target.emptyFile();
            for (int i = 0; i < text.length && shell.work < Shell.MOST_WORK; i++) {
                shell.work++;
                target.append(text.at(i));
            }
            return 0;
        }

        private int move() {
            if (words != 2) {
                return WRONG;
            }
            Node source = memory.here.find(word(0));
            if (source == null || source.isDirectory()) {
                return 1;
            }
            Row path = goal(word(1), source.name);
            Node target = memory.here.find(path);
            Node up = memory.here.place(path);
            int last = Node.lastName(path);
            if (up == null || last < 0 || target == source || target != null && target.isDirectory()) {
                return 1;
            }
            if (target != null) {
                target.remove();
            }
            source.moveTo(up, path.part(last, path.length));
            return 0;
        }
    }
}
