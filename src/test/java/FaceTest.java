import java.lang.reflect.Constructor;
import java.lang.reflect.Field;
import java.lang.reflect.Method;
import java.lang.reflect.Modifier;
import java.util.Arrays;
import java.util.List;
import java.util.Set;
import java.util.TreeSet;

/** The public face is that of the document, and no other. */
public final class FaceTest {
    private static final Check check = new Check("FaceTest");
    private static final List<String> METHODS = List.of(
        "shared(int,int,int)", "role(int)", "own(int,int,int,int)", "end(int,int)", "channel(int,boolean,boolean)",
        "expr(int,int,int,int)", "step(int,int,int,int)", "act(int,int,int,int)", "alike(boolean)", "search()",
        "tells(int,int)", "place(int,int,int)", "owned(int,int,int,int)", "letter(int,int,int)", "moves(int)",
        "move(int,int,int)", "depth(int)", "came(int,int)", "stuck()", "fault(int)", "always(int)",
        "again(int,boolean)", "fromTo(int,int,boolean)", "observe(int)", "classes()", "classOf(int)", "count(int)");
    private static final List<String> CONSTANTS = List.of("NONE", "UNKNOWN", "OUTSIDE", "OWNED", "NOT", "FULL", "SPENT");

    private FaceTest() {
    }

    private static String form(Method m) {
        StringBuilder text = new StringBuilder(m.getName()).append('(');
        for (Class<?> c : m.getParameterTypes()) {
            text.append(text.charAt(text.length() - 1) == '(' ? "" : ",").append(c.getName());
        }
        return text.append(')').toString();
    }

    private static void methods() {
        Set<String> faces = new TreeSet<>();
        Set<String> names = new TreeSet<>();
        for (Method m : ProtocolBench.class.getDeclaredMethods()) {
            if (!Modifier.isPrivate(m.getModifiers())) {
                faces.add(form(m));
                names.add(m.getName());
                check.holds(m + " is public, answers int, and is not static", Modifier.isPublic(m.getModifiers())
                    && m.getReturnType() == int.class && !Modifier.isStatic(m.getModifiers()));
            }
        }
        check.holds("the methods are " + faces, faces.equals(new TreeSet<>(METHODS)));
        for (Method m : ProtocolBench.class.getDeclaredMethods()) {
            check.holds("no private method is named " + m.getName(),
                !Modifier.isPrivate(m.getModifiers()) || !names.contains(m.getName()));
        }
        for (Class<?> c : ProtocolBench.class.getDeclaredClasses()) {
            check.holds(c + " is static and not public", Modifier.isStatic(c.getModifiers())
                && !Modifier.isPublic(c.getModifiers()) && !Modifier.isProtected(c.getModifiers()));
            check.holds(c + " has some twenty fields at most", Arrays.stream(c.getDeclaredFields())
                .filter(f -> !Modifier.isStatic(f.getModifiers())).count() <= 20);
            for (Method m : c.getDeclaredMethods()) {
                check.holds("no method inside is named " + m.getName(), !names.contains(m.getName()));
                check.holds(m + " takes seven at most", m.getParameterCount() <= 7);
            }
        }
        check.holds("some twelve classes at most", ProtocolBench.class.getDeclaredClasses().length <= 11);
    }

    private static void constants() throws IllegalAccessException {
        Set<String> seen = new TreeSet<>();
        for (Field f : ProtocolBench.class.getDeclaredFields()) {
            if (Modifier.isPrivate(f.getModifiers())) {
                continue;
            }
            seen.add(f.getName());
            check.holds(f + " is a public constant", Modifier.isPublic(f.getModifiers())
                && Modifier.isStatic(f.getModifiers()) && Modifier.isFinal(f.getModifiers()) && f.getType() == int.class);
            check.due(f.getName(), f.getInt(null), -1 - CONSTANTS.indexOf(f.getName()));
        }
        check.holds("the constants are " + seen, seen.equals(new TreeSet<>(CONSTANTS)));
    }

    public static void main(String[] args) throws IllegalAccessException {
        int modifiers = ProtocolBench.class.getModifiers();
        check.holds("public and final", Modifier.isPublic(modifiers) && Modifier.isFinal(modifiers));
        Constructor<?>[] made = ProtocolBench.class.getDeclaredConstructors();
        check.holds("one public constructor of nothing",
            made.length == 1 && Modifier.isPublic(made[0].getModifiers()) && made[0].getParameterCount() == 0);
        methods();
        constants();
        check.finish();
    }
}
