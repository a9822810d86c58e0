import java.lang.reflect.Constructor;
import java.lang.reflect.Field;
import java.lang.reflect.Method;
import java.lang.reflect.Modifier;
import java.util.Set;
import java.util.TreeSet;

/** The public face is the document's, and nothing else is open. */
public final class FaceTest {
    private static final String[] METHODS = {
        "int row(int,int)", "int lay(int,int,int)", "int at(int,int)", "int tear(int)",
        "int copy(int,int,int,int,int)", "int mean(int)", "int text(int,int)", "int put(int,int,int)",
        "int fault(int)", "int post(int)", "int house(int,int)", "int mark(int,int)",
        "int errand(int,int)", "int walk(int)", "int undo(int)", "int keep(int)", "int on(int)",
        "int empty(int)", "int hour(int,int)", "int brings(int)", "int should(int,int)", "int never()",
        "int best(int)", "int most()", "int soon()", "int errands()", "int kinds(int,int)",
        "int outs(int,int,int)", "int feigned()", "int sack(int,int)", "int race(int)",
        "int mid(int,int)", "int odds(int,int)", "int lots(int,int)", "int asked()", "long upper()",
        "long lower()", "int count(int)", "int finding()", "int findings(int)", "long digest()"};
    private static final String[] CONSTANTS = {"BAD", "FULL", "FINDING", "STATE", "SPENT", "NONE"};

    public static void main(String[] args) {
        constants();
        Set<String> want = new TreeSet<>(Set.of(METHODS));
        Set<String> open = new TreeSet<>();
        Set<String> names = new TreeSet<>();
        for (Method m : AbsentPost.class.getDeclaredMethods()) {
            if (!Modifier.isPrivate(m.getModifiers())) {
                open.add(signature(m));
                names.add(m.getName());
            }
        }
        same("methods", open, want);
        for (Method m : AbsentPost.class.getDeclaredMethods()) {
            flag("a private method is named as a public one: " + m.getName(),
                Modifier.isPrivate(m.getModifiers()) && names.contains(m.getName()));
        }
        fields(new TreeSet<>(Set.of(CONSTANTS)));
        Constructor<?>[] made = AbsentPost.class.getDeclaredConstructors();
        flag("constructors", made.length != 1 || !Modifier.isPublic(made[0].getModifiers()));
        flag("the class is final", !Modifier.isFinal(AbsentPost.class.getModifiers()));
        Check.end();
    }

    private static void constants() {
        Check.due("BAD", AbsentPost.BAD, -1);
        Check.due("FULL", AbsentPost.FULL, -2);
        Check.due("FINDING", AbsentPost.FINDING, -3);
        Check.due("STATE", AbsentPost.STATE, -4);
        Check.due("SPENT", AbsentPost.SPENT, -6);
        Check.due("NONE", AbsentPost.NONE, -9);
    }

    private static void fields(Set<String> want) {
        Set<String> open = new TreeSet<>();
        for (Field f : AbsentPost.class.getDeclaredFields()) {
            if (!Modifier.isPrivate(f.getModifiers())) {
                open.add(f.getName());
            }
            flag("a static field that is not final: " + f.getName(),
                Modifier.isStatic(f.getModifiers()) && !Modifier.isFinal(f.getModifiers()));
        }
        same("fields", open, want);
    }

    private static String signature(Method m) {
        StringBuilder b = new StringBuilder(m.getReturnType().getName() + " " + m.getName() + "(");
        for (Class<?> c : m.getParameterTypes()) {
            b.append(b.charAt(b.length() - 1) == '(' ? "" : ",").append(c.getName());
        }
        return b.append(")").toString();
    }

    private static void same(String what, Set<String> got, Set<String> want) {
        flag(what + " are " + got + ", due are " + want, !got.equals(want));
    }

    private static void flag(String what, boolean isWrong) {
        Check.due(what, isWrong ? 1 : 0, 0);
    }
}
