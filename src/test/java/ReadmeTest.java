import java.io.File;
import java.io.IOException;
import java.lang.reflect.Method;
import java.lang.reflect.Modifier;
import java.nio.charset.StandardCharsets;
import java.nio.file.Files;
import java.nio.file.Path;
import java.util.regex.Matcher;
import java.util.regex.Pattern;

/** README.md: its example, taken as written, prints what stands there; each call is named. */
public final class ReadmeTest {
    private static final Path README = Path.of("README.md");

    public static void main(String[] args) throws Exception {
        String page = Files.readString(README);
        compare(printed(block(page, "java")), block(page, "text"));
        for (Method m : AbsentPost.class.getDeclaredMethods()) {
            if (Modifier.isPublic(m.getModifiers()) && !page.contains("`" + m.getName() + "`")) {
                Check.due("README.md does not name " + m.getName(), 1, 0);
            }
        }
        Check.due("README.md tells how to run the tests", page.contains("\n    .ci/run\n") ? 1 : 0, 1);
        Check.end();
    }

    /** The first block of the page that is of a kind. */
    private static String block(String page, String kind) {
        Matcher m = Pattern.compile("\n```" + kind + "\n(.*?)```\n", Pattern.DOTALL).matcher(page);
        return m.find() ? m.group(1) : "";
    }

    private static String printed(String example) throws Exception {
        Path folder = Files.createTempDirectory("example");
        try {
            Path source = Files.writeString(folder.resolve("Example.java"), example);
            String classes = System.getProperty("java.class.path");
            return run("javac", "-cp", classes, "-d", folder.toString(), source.toString())
                + run("java", "-cp", folder + File.pathSeparator + classes, "Example");
        } finally {
            remove(folder);
        }
    }

    /** What a command printed; its complaints go to the screen. */
    private static String run(String... command) throws Exception {
        Process process = new ProcessBuilder(command).redirectError(ProcessBuilder.Redirect.INHERIT).start();
        String printed = new String(process.getInputStream().readAllBytes(), StandardCharsets.UTF_8);
        process.waitFor();
        return printed.replace("\r\n", "\n");
    }

    private static void remove(Path folder) throws IOException {
        try (var files = Files.list(folder)) {
            for (Path file : files.toList()) {
                Files.delete(file);
            }
        }
        Files.delete(folder);
    }

    private static void compare(String got, String want) {
        Check.due("README.md has an example with what it prints", want.isEmpty() ? 0 : 1, 1);
        if (!got.equals(want)) {
            Check.due("the example of README.md printed\n" + got + "but there stands\n" + want, 1, 0);
        }
    }
}
