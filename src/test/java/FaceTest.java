import java.lang.reflect.Constructor;
import java.lang.reflect.Field;
import java.lang.reflect.Method;
import java.lang.reflect.Modifier;
import java.util.Arrays;
import java.util.Set;
import java.util.TreeSet;

/** The class has the document's public face, and nothing else of it can be seen. */
public final class FaceTest {
    private static final Set<String> FACE = new TreeSet<>(Arrays.asList(
        "boolean draft[long][]",
        "int define[int][java.lang.IllegalArgumentException, java.lang.UnsupportedOperationException]",
        "boolean sound[int][]",
        "int typed[int][java.lang.IllegalStateException]",
        "int run[int, int][java.lang.IllegalStateException]",
        "int value[int][java.lang.IllegalArgumentException]",
        "int heap[int][java.lang.IllegalArgumentException]",
        "int cell[int][java.lang.IndexOutOfBoundsException]"));

    public static void main(String[] args) {
        Class<LinearCells> face = LinearCells.class;
        Due.is("public and final", true,
            Modifier.isPublic(face.getModifiers()) && Modifier.isFinal(face.getModifiers()));
        Due.is("the document's methods", true, FACE.equals(methods(face)));
        for (Field field : face.getDeclaredFields()) {
            Due.is(field + " is private", true, Modifier.isPrivate(field.getModifiers()));
        }
        Constructor<?>[] constructors = face.getDeclaredConstructors();
        Due.is("constructors", 1, constructors.length);
        Due.is("a public one", true, Modifier.isPublic(constructors[0].getModifiers()));
        Due.is("without parameters", 0, constructors[0].getParameterCount());
        for (Class<?> inside : face.getDeclaredClasses()) {
            Due.is(inside + " is static", true, Modifier.isStatic(inside.getModifiers()));
            Due.is(inside + " is hidden", false,
                Modifier.isPublic(inside.getModifiers()) || Modifier.isProtected(inside.getModifiers()));
        }
        Due.end();
    }

    private static Set<String> methods(Class<?> face) {
        Set<String> found = new TreeSet<>();
        for (Method method : face.getDeclaredMethods()) {
            if (!Modifier.isPrivate(method.getModifiers())) {
                Due.is(method + " is public", true, Modifier.isPublic(method.getModifiers()));
                found.add(method.getReturnType().getName() + " " + method.getName()
                    + names(method.getParameterTypes()) + names(method.getExceptionTypes()));
            }
        }
        return found;
    }

    private static String names(Class<?>[] classes) {
        return Arrays.toString(Arrays.stream(classes).map(Class::getName).toArray());
    }
}
