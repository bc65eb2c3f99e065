import java.io.ByteArrayOutputStream;
import java.io.File;
import java.io.PrintStream;
import java.lang.reflect.Method;
import java.lang.reflect.Modifier;
import java.net.URL;
import java.net.URLClassLoader;
import java.nio.charset.StandardCharsets;
import java.nio.file.Files;
import java.nio.file.Path;
import java.nio.file.Paths;
import javax.tools.JavaCompiler;
import javax.tools.ToolProvider;

/** What README.md says is so: its example as it stands there, the calls, the tests (run from the project's directory). */
public final class ReadmeTest {
    public static void main(String[] args) throws Exception {
        String page = Files.readString(Paths.get("README.md"), StandardCharsets.US_ASCII);
        example(page);
        calls(page);
        tests(page);
        Session.end();
    }

    private static void example(String page) throws Exception {
        Path place = Files.createTempDirectory("readme");
        Path source = place.resolve("Example.java");
        Files.writeString(source, block(page, "java"));
        JavaCompiler compiler = ToolProvider.getSystemJavaCompiler();
        String path = System.getProperty("java.class.path");
        int result = compiler.run(null, null, null, "-cp", path, "-d", place.toString(), source.toString());
        Session.due("the example is compiled", result, 0);
        if (result == 0) {
            Session.due("what the example writes", written(place), block(page, "text"));
        }
        remove(place);
    }

    /** What the example writes, run by itself: its own class, and the class that all the tests use. */
    private static String written(Path place) throws Exception {
        ByteArrayOutputStream bytes = new ByteArrayOutputStream();
        PrintStream before = System.out;
        try (URLClassLoader loader = new URLClassLoader(new URL[] {place.toUri().toURL()})) {
            System.setOut(new PrintStream(bytes, true, StandardCharsets.US_ASCII));
            loader.loadClass("Example").getMethod("main", String[].class).invoke(null, (Object) new String[0]);
        } finally {
            System.setOut(before);
        }
        return bytes.toString(StandardCharsets.US_ASCII).replace(System.lineSeparator(), "\n");
    }

    private static void remove(Path place) throws Exception {
        File[] files = place.toFile().listFiles();
        for (File file : files == null ? new File[0] : files) {
            Files.delete(file.toPath());
        }
        Files.delete(place);
    }

    /** The one block of the page that is marked so. */
    private static String block(String page, String mark) {
        String[] parts = page.split("\n```" + mark + "\n", -1);
        Session.due("blocks of " + mark, parts.length, 2);
        return parts.length == 2 ? parts[1].substring(0, parts[1].indexOf("\n```") + 1) : "";
    }

    /** The page tells each call as it is declared, and the constructor. */
    private static void calls(String page) {
        for (Method method : TextShell.class.getDeclaredMethods()) {
            if (Modifier.isPublic(method.getModifiers())) {
                String told = "- `" + method.getReturnType().getSimpleName() + " " + method.getName() + "(";
                int at = page.indexOf(told);
                Session.due("README.md tells " + told, at >= 0, true);
                int end = at < 0 ? at : page.indexOf("\n- ", at + 1) < 0 ? page.length() : page.indexOf("\n- ", at + 1);
                String text = at < 0 ? "" : page.substring(at, end);
                String declared = text.substring(text.indexOf('(') + 1, Math.max(text.indexOf('(') + 1, text.indexOf(')')));
                int parameters = declared.isEmpty() ? 0 : declared.split(", ").length;
                Session.due("parameters told of " + method.getName(), parameters, method.getParameterCount());
                for (Class<?> kind : method.getExceptionTypes()) {
                    Session.due(method.getName() + " is told to throw " + kind, text.contains("`" + kind.getSimpleName() + "`"), true);
                }
                boolean throwsNone = method.getExceptionTypes().length == 0;
                Session.due(method.getName() + " is told never to throw", text.contains("It never throws."), throwsNone);
            }
        }
        Session.due("README.md tells the constructor", page.contains("`new TextShell()`"), true);
    }

    /** The page names each test, and the one command that runs all of them. */
    private static void tests(String page) throws Exception {
        Session.due("README.md tells .ci/run", page.contains("\n    .ci/run\n") && Files.isExecutable(Paths.get(".ci/run")), true);
        String[] files = Paths.get("src/test/java").toFile().list();
        Session.due("tests are there", files != null && files.length > 0, true);
        for (String file : files == null ? new String[0] : files) {
            String name = file.replace(".java", "");
            Session.due("README.md names " + name, page.contains("`" + name + "`"), true);
        }
    }
}
