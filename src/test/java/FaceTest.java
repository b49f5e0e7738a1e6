import java.lang.reflect.Constructor;
import java.lang.reflect.Field;
import java.lang.reflect.Method;
import java.lang.reflect.Modifier;
import java.util.Arrays;
import java.util.TreeSet;
import java.util.stream.Collectors;

/** The public face of the document, and that nothing else can be seen of the class. */
public final class FaceTest {
    private static final String A = "IllegalArgumentException";
    private static final String S = "IllegalStateException";
    private static final String N = "NoSuchElementException";

    public static void main(String[] args) {
        TreeSet<String> due = new TreeSet<>(Arrays.asList(
            "FileJudge()",
            "int feed(long, int) " + A + " " + S,
            "void spoil(int, int) " + A,
            "void clear()",
            "int judge()",
            "int broken() " + S,
            "int many(int) " + A + " " + S,
            "long segment(int, int) " + A + " " + S + " " + N,
            "long section(int, int) " + A + " " + S + " " + N,
            "int letter(int, int) " + S + " " + N,
            "int symbols(int) " + S + " " + N,
            "long symbol(int, int, int) " + A + " " + S + " " + N,
            "int find(long) " + S));
        Expect.same("the face", due.toString(), face().toString());
        int modifiers = FileJudge.class.getModifiers();
        Expect.same("the class", "public final", Modifier.toString(modifiers));
        privateMethodsHaveOtherNames();
        classesInsideAreHidden();
        Expect.end();
    }

    private static void privateMethodsHaveOtherNames() {
        TreeSet<String> seen = new TreeSet<>();
        for (Method m : FileJudge.class.getMethods()) {
            seen.add(m.getName());
        }
        for (Method m : FileJudge.class.getDeclaredMethods()) {
            boolean same = Modifier.isPrivate(m.getModifiers()) && seen.contains(m.getName());
            Expect.same("private " + m.getName() + " bears a public name", "false", Boolean.toString(same));
        }
    }

    private static void classesInsideAreHidden() {
        for (Class<?> inside : FileJudge.class.getDeclaredClasses()) {
            int modifiers = inside.getModifiers();
            boolean seen = Modifier.isPublic(modifiers) || Modifier.isProtected(modifiers);
            Expect.same(inside.getSimpleName() + " can be seen", "false", Boolean.toString(seen));
            Expect.same(inside.getSimpleName() + " is static", "true", Boolean.toString(Modifier.isStatic(modifiers)));
        }
    }

    private static TreeSet<String> face() {
        TreeSet<String> face = new TreeSet<>();
        for (Constructor<?> c : FileJudge.class.getDeclaredConstructors()) {
            face.add(seen(c.getModifiers()) + "FileJudge" + types(c.getParameterTypes(), c.getExceptionTypes()));
        }
        for (Method m : FileJudge.class.getDeclaredMethods()) {
            if (!Modifier.isPrivate(m.getModifiers())) {
                String name = m.getReturnType().getSimpleName() + " " + m.getName();
                face.add(seen(m.getModifiers()) + name + types(m.getParameterTypes(), m.getExceptionTypes()));
            }
        }
        for (Field f : FileJudge.class.getDeclaredFields()) {
            if (!Modifier.isPrivate(f.getModifiers())) {
                face.add(f.toString());
            }
        }
        return face;
    }

    /** Nothing for a public member of an object; what it is otherwise. */
    private static String seen(int modifiers) {
        return modifiers == Modifier.PUBLIC ? "" : "[" + Modifier.toString(modifiers) + "] ";
    }

    private static String types(Class<?>[] parameters, Class<?>[] exceptions) {
        String in = Arrays.stream(parameters).map(Class::getSimpleName).collect(Collectors.joining(", "));
        String out = Arrays.stream(exceptions).map(e -> " " + e.getSimpleName()).collect(Collectors.joining());
        return "(" + in + ")" + out;
    }
}
