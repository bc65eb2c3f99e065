import java.nio.charset.StandardCharsets;
import java.nio.file.Files;
import java.nio.file.Paths;
import java.util.List;
import java.util.regex.Matcher;
import java.util.regex.Pattern;

/** Rules of LANGUAGE.md that can be seen in the text of the class (run from the project's directory). */
public final class RulesTest {
    private static final String[] PUBLIC = {"feed", "read", "print", "run", "input", "put", "ask", "byteAt", "clear", "reset", "count"};
    private static final String[] NEVER = {"import", "->", "::", "instanceof", "catch", "finally", "synchronized", "assert ", "String.", "Arrays.",
        "Exact(", "protected", "static {", "package "};

    public static void main(String[] args) throws Exception {
        List<String> lines = Files.readAllLines(Paths.get("src/main/java/TextShell.java"), StandardCharsets.US_ASCII);
        int classes = 0;
        int start = -1;
        String end = "";
        Pattern method = Pattern.compile("^( +)(private|public) .*\\((.*)\\).*\\{$");
        for (int i = 0; i < lines.size(); i++) {
            String line = lines.get(i);
            String code = line.replaceAll("^\\s*(//|/?\\*).*", "").replaceAll("\"[^\"]*\"", "\"\"");
            for (String never : NEVER) {
                Session.due("line " + (i + 1) + " has " + never, code.contains(never), false);
            }
            classes += code.contains("class ") ? 1 : 0;
            if (code.matches(" {8}\\S.*[;{]") && !code.trim().startsWith("}")) {
                boolean member = start < 0 && i > 0;
                Session.due("line " + (i + 1) + " is private: " + line, !member || code.trim().startsWith("private ") || code.trim().startsWith("return")
                    || !insideNested(lines, i), true);
            }
            Matcher m = method.matcher(line);
            if (start < 0 && m.matches() && !line.contains(" class ")) {
                start = i;
                end = m.group(1) + "}";
                Session.due("parameters of line " + (i + 1), m.group(3).split(",").length <= 7, true);
                for (String name : PUBLIC) {
                    Session.due("line " + (i + 1), m.group(2).equals("private") && line.contains(" " + name + "("), false);
                }
            } else if (start >= 0 && line.equals(end)) {
                Session.due("length of the method of line " + (start + 1), i - start + 1 <= 60, true);
                start = -1;
            }
        }
        Session.due("classes", classes <= 13, true);
        Session.end();
    }

    private static boolean insideNested(List<String> lines, int at) {
        for (int i = at; i >= 0; i--) {
            if (lines.get(i).startsWith("    private static final class ")) {
                return true;
            }
            if (lines.get(i).startsWith("    }")) {
                return false;
            }
        }
        return false;
    }
}
