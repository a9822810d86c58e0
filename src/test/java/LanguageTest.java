import java.io.IOException;
import java.lang.reflect.Constructor;
import java.lang.reflect.Field;
import java.lang.reflect.Method;
import java.lang.reflect.Modifier;
import java.nio.file.Files;
import java.nio.file.Path;
import java.util.ArrayList;
import java.util.List;
import java.util.Set;
import java.util.TreeSet;
import java.util.regex.Matcher;
import java.util.regex.Pattern;

/** The rules of LANGUAGE.md that can be seen in the source or in the class, by their numbers. */
public final class LanguageTest {
    private static final int PARAMETERS = 7, LINES = 60, CLASSES = 12, FIELDS = 20;
    private static final Pattern FORBIDDEN = Pattern.compile("\\b(throw|throws|try|catch|finally|synchronized|assert"
        + "|package|double|float|var|equals|hashCode|toString|Random|Thread|File|nanoTime|currentTimeMillis|native"
        + "|volatile|transient|Object|Iterator|Stream)\\b|->|::|\"|\\bstatic\\s*\\{|\\w+Exact\\b|[^\\x00-\\x7f]");
    private static final Set<String> LIBRARY = Set.of("Arrays.fill", "Math.min", "Math.max", "Math.abs",
        "Integer.bitCount", "System.arraycopy");
    private static final Pattern HEAD = Pattern.compile("(\\w+)\\([^()]*\\) \\{$");

    public static void main(String[] args) throws IOException {
        String source = Files.readString(Path.of("src/main/java/AbsentPost.java"));
        words(code(source));
        methods(code(source).lines().toList());
        List<Class<?>> classes = new ArrayList<>(List.of(AbsentPost.class.getDeclaredClasses()));
        classes.forEach(LanguageTest::inside);
        classes.add(AbsentPost.class);
        flag("11: more than twelve classes", classes.size() > CLASSES);
        classes.forEach(LanguageTest::members);
        Check.end();
    }

    private static String code(String source) {
        return source.replaceAll("/\\*([^*]|\\*(?!/))*\\*/", " ").replaceAll("//[^\n]*", " ");
    }

    private static void words(String code) {
        Matcher bad = FORBIDDEN.matcher(code);
        while (bad.find()) {
            flag("3 to 6, 10, 13: the source has '" + bad.group() + "'", true);
        }
        Matcher imports = Pattern.compile("import ([^;]*);").matcher(code);
        while (imports.find()) {
            flag("4: the source imports " + imports.group(1), !imports.group(1).equals("java.util.Arrays"));
        }
        Matcher library = Pattern.compile("\\b([A-Z][a-z]\\w*)\\.(\\w+)\\(").matcher(code);
        while (library.find()) {
            String call = library.group(1) + "." + library.group(2);
            flag("4: the source calls " + call, !LIBRARY.contains(call));
        }
    }

    /** Methods are short, and none but a constructor makes an object, so that no run can make many. */
    private static void methods(List<String> lines) {
        int found = 0;
        for (int k = 0; k < lines.size(); k++) {
            Matcher head = HEAD.matcher(lines.get(k));
            int indent = lines.get(k).length() - lines.get(k).stripLeading().length();
            if (!head.find() || lines.get(k).strip().matches("(if|for|while|switch|\\}).*")) {
                continue;
            }
            found++;
            String name = head.group(1);
            int end = k;
            while (!lines.get(end).equals(" ".repeat(indent) + "}")) {
                boolean makes = lines.get(end).matches(".*\\bnew\\b.*") && !Character.isUpperCase(name.charAt(0));
                flag("12: " + name + " makes an object", makes);
                end++;
            }
            flag("11: " + name + " is long", end - k > LINES);
        }
        flag("the methods were not found in the source: " + found, found < 60);
    }

    private static void inside(Class<?> c) {
        int marks = c.getModifiers();
        flag("1, 2: " + c + " is open or not static", Modifier.isPublic(marks) || Modifier.isProtected(marks)
            || !Modifier.isStatic(marks));
    }

    private static void members(Class<?> c) {
        Set<String> face = new TreeSet<>();
        for (Method m : AbsentPost.class.getDeclaredMethods()) {
            if (Modifier.isPublic(m.getModifiers())) {
                face.add(m.getName());
            }
        }
        for (Method m : c.getDeclaredMethods()) {
            boolean open = c == AbsentPost.class && Modifier.isPublic(m.getModifiers());
            flag("1: " + c + " has another " + m.getName(), !open && face.contains(m.getName()));
            flag("11: parameters of " + m.getName(), m.getParameterCount() > PARAMETERS);
        }
        for (Constructor<?> made : c.getDeclaredConstructors()) {
            flag("11: parameters of a constructor of " + c, made.getParameterCount() > PARAMETERS);
        }
        int held = 0;
        for (Field f : c.getDeclaredFields()) {
            held += Modifier.isStatic(f.getModifiers()) ? 0 : 1;
            flag("5: " + f + " is not final", Modifier.isStatic(f.getModifiers()) && !Modifier.isFinal(f.getModifiers()));
            flag("3: " + f + " is of two dimensions", f.getType().getName().matches("\\[\\[+L.*|\\[\\[\\[.*"));
        }
        flag("11: many fields in " + c, held > FIELDS);
    }

    private static void flag(String what, boolean isWrong) {
        Check.due(what, isWrong ? 1 : 0, 0);
    }
}
