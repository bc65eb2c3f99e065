import java.nio.charset.StandardCharsets;
import java.util.Objects;

/** A TextShell with texts instead of numbers, and a count of what was not as it is due. */
final class Session {
    static int wrong = 0;
    final TextShell shell = new TextShell();

    static void due(String what, Object got, Object want) {
        if (!Objects.equals(got, want)) {
            wrong++;
            System.out.println(what + ": answered <" + got + ">, due is <" + want + ">");
        }
    }

    static void end() {
        System.out.println(wrong == 0 ? "all as due" : wrong + " not as due");
        if (wrong != 0) {
            System.exit(1);
        }
    }

    /** Brings a text on the tape, with bytes 0 behind it up to the next twenty. */
    void tape(String text) {
        byte[] bytes = text.getBytes(StandardCharsets.ISO_8859_1);
        for (int i = 0; i < bytes.length; i += 20) {
            int[] fours = new int[5];
            for (int k = 0; k < 20; k++) {
                int c = i + k < bytes.length ? bytes[i + k] & 255 : 0;
                fours[k / 4] |= c << 24 - 8 * (k % 4);
            }
            shell.feed(fours[0], fours[1], fours[2], fours[3], fours[4]);
        }
    }

    int read(String text) {
        tape(text);
        return shell.read(text.length());
    }

    void input(String text) {
        tape(text);
        shell.input(text.length());
    }

    boolean put(int kind, String name, String value) {
        tape(name + value);
        return shell.put(kind, name.length(), value.length());
    }

    /** What a name has, or null. */
    String ask(int kind, String name) {
        tape(name);
        int length = shell.ask(kind, name.length());
        return length < 0 ? null : bytes(3, length);
    }

    String bytes(int which, int length) {
        StringBuilder text = new StringBuilder();
        for (int i = 0; i < length; i++) {
            text.append((char) shell.byteAt(which, i));
        }
        return text.toString();
    }

    String print() {
        return bytes(0, shell.print());
    }

    /** Reads and runs a script: what it wrote to 1, then what to 2 behind [2], then the status behind ? . */
    String run(String text) {
        int fault = read(text);
        if (fault != 0) {
            return "fault " + fault % 8 + " line " + fault / 8;
        }
        int end = shell.run(100000);
        String out = bytes(1, shell.count(2));
        String err = bytes(2, shell.count(3));
        shell.clear();
        return out + (err.isEmpty() ? "" : "[2]" + err) + "?" + shell.count(1) + (end == 0 ? "" : " end " + end);
    }

    /** A script on a new shell. */
    static void runs(String text, String want) {
        due(text, new Session().run(text), want);
    }

    static void prints(String text, String want) {
        Session s = new Session();
        int fault = s.read(text);
        due(text, fault == 0 ? s.print() : "fault " + fault % 8 + " line " + fault / 8, want);
    }

    static void faults(String text, int fault, int line) {
        due(text, new Session().read(text), fault + 8 * line);
    }
}
