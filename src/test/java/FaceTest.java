import java.lang.reflect.Constructor;
import java.lang.reflect.Field;
import java.lang.reflect.Method;
import java.lang.reflect.Modifier;
import java.util.Arrays;
import java.util.Set;
import java.util.TreeSet;
import java.util.stream.Collectors;

/** The class shows the document's face and nothing else. */
final class FaceTest {
    public static void main(String[] args) {
        Set<String> due = new TreeSet<>(Arrays.asList(
            "int feed(int, int, int, int, int) throws IndexOutOfBoundsException",
            "int end(int) throws IllegalArgumentException",
            "void clear(int, int) throws IllegalArgumentException",
            "void set(int, long) throws IllegalArgumentException",
            "void text(int) throws IllegalArgumentException",
            "int read() throws UnsupportedOperationException",
            "int kind() throws IllegalStateException, ArithmeticException",
            "int work() throws IllegalStateException, ArithmeticException",
            "int keep(int) throws IllegalArgumentException",
            "long value(int) throws IllegalArgumentException",
            "int count(int) throws IllegalArgumentException"));
        Set<String> got = new TreeSet<>();
        for (Method m : TruthBench.class.getDeclaredMethods()) {
            if (!Modifier.isPrivate(m.getModifiers()) && !m.isSynthetic()) {
                got.add(m.getReturnType() + " " + m.getName() + "(" + names(m.getParameterTypes()) + ") throws "
                    + names(m.getExceptionTypes()));
            }
        }
        Due.same("the methods", got, due);
        Constructor<?>[] constructors = TruthBench.class.getDeclaredConstructors();
        Due.same("the constructors", constructors.length, 1);
        Due.same("the constructor", constructors[0], "public TruthBench()");
        for (Field f : TruthBench.class.getDeclaredFields()) {
            Due.same("field " + f.getName() + " is private", Modifier.isPrivate(f.getModifiers()), true);
        }
        Due.same("the class is public and final", Modifier.toString(TruthBench.class.getModifiers()), "public final");
        Due.same("what it extends", TruthBench.class.getSuperclass(), Object.class);
        Due.same("what it implements", TruthBench.class.getInterfaces().length, 0);
        inside(TruthBench.class);
        for (Class<?> c : TruthBench.class.getDeclaredClasses()) {
            Due.same(c + " is hidden", Modifier.isPublic(c.getModifiers()) || Modifier.isProtected(c.getModifiers()), false);
            Due.same(c + " is static", Modifier.isStatic(c.getModifiers()), true);
            inside(c);
        }
        Due.finish("FaceTest");
    }

    /** No private method bears the name of a public one, and no static field can be changed. */
    private static void inside(Class<?> c) {
        Set<String> face = Arrays.stream(TruthBench.class.getDeclaredMethods()).filter(m -> Modifier.isPublic(m.getModifiers()))
            .map(Method::getName).collect(Collectors.toSet());
        for (Method m : c.getDeclaredMethods()) {
            boolean open = c == TruthBench.class && Modifier.isPublic(m.getModifiers());
            Due.same(c + " has a " + m.getName() + " that is none of the face", !open && face.contains(m.getName()), false);
        }
        for (Field f : c.getDeclaredFields()) {
            boolean changes = Modifier.isStatic(f.getModifiers()) && !Modifier.isFinal(f.getModifiers());
            Due.same(c + " has a static " + f.getName() + " that changes", changes, false);
        }
    }

    private static String names(Class<?>[] types) {
        return Arrays.stream(types).map(Class::getSimpleName).collect(Collectors.joining(", "));
    }
}
