import java.io.ByteArrayOutputStream;
import java.io.IOException;
import java.io.PrintStream;
import java.lang.reflect.Method;
import java.lang.reflect.Modifier;
import java.net.URL;
import java.net.URLClassLoader;
import java.nio.charset.StandardCharsets;
import java.nio.file.Files;
import java.nio.file.Path;
import java.util.regex.Matcher;
import java.util.regex.Pattern;
import javax.tools.ToolProvider;

/** README.md: its example, taken as written, prints what stands there; each call is named. */
public final class ReadmeTest {
    private static final Path README = Path.of("README.md");

    public static void main(String[] args) throws Exception {
        String page = Files.readString(README);
        compare(printed(block(page, "java")), block(page, "text"));
        for (Method m : AbsentPost.class.getDeclaredMethods()) {
            if (Modifier.isPublic(m.getModifiers()) && !page.contains("`" + m.getName() + "`")) {
                Check.due("README.md does not name " + m.getName(), 1, 0);
            }
        }
        Check.due("README.md tells how to run the tests", page.contains("\n    .ci/run\n") ? 1 : 0, 1);
        Check.end();
    }

    /** The first block of the page that is of a kind. */
    private static String block(String page, String kind) {
        Matcher m = Pattern.compile("\n```" + kind + "\n(.*?)```\n", Pattern.DOTALL).matcher(page);
        return m.find() ? m.group(1) : "";
    }

    private static String printed(String example) throws Exception {
        Path folder = Files.createTempDirectory("example");
        try {
            Path source = Files.writeString(folder.resolve("Example.java"), example);
            int wrong = ToolProvider.getSystemJavaCompiler().run(null, null, null,
                "-cp", System.getProperty("java.class.path"), "-d", folder.toString(), source.toString());
            return wrong == 0 ? run(folder) : "it does not compile";
        } finally {
            remove(folder);
        }
    }

    private static String run(Path folder) throws Exception {
        PrintStream screen = System.out;
        ByteArrayOutputStream caught = new ByteArrayOutputStream();
        try (URLClassLoader classes = new URLClassLoader(new URL[] {folder.toUri().toURL()})) {
            System.setOut(new PrintStream(caught, true, StandardCharsets.UTF_8));
            classes.loadClass("Example").getMethod("main", String[].class).invoke(null, (Object) new String[0]);
        } finally {
            System.setOut(screen);
        }
        return caught.toString(StandardCharsets.UTF_8).replace("\r\n", "\n");
    }

    private static void remove(Path folder) throws IOException {
        try (var files = Files.list(folder)) {
            for (Path file : files.toList()) {
                Files.delete(file);
            }
        }
        Files.delete(folder);
    }

    private static void compare(String got, String want) {
        Check.due("README.md has an example with what it prints", want.isEmpty() ? 0 : 1, 1);
        if (!got.equals(want)) {
            Check.due("the example of README.md printed\n" + got + "but there stands\n" + want, 1, 0);
        }
    }
}
