import java.lang.reflect.Constructor;
import java.lang.reflect.Field;
import java.lang.reflect.Method;
import java.lang.reflect.Modifier;
import java.util.Arrays;
import java.util.Set;
import java.util.TreeSet;

/** The public face is the document's, and nothing else can be seen from outside. */
public final class FaceTest {
    private static final Set<String> FACE = new TreeSet<>(Arrays.asList(
        "int take(int) IllegalArgumentException",
        "int prime(int) IndexOutOfBoundsException",
        "int exponent(int) IndexOutOfBoundsException",
        "int divisor(int) IndexOutOfBoundsException",
        "int count(int)",
        "int kronecker(long, int) IllegalArgumentException",
        "int power(long, long) IllegalArgumentException",
        "int inverse(long) IllegalStateException",
        "int roots(long)",
        "int root(int) IndexOutOfBoundsException"));

    public static void main(String[] args) {
        int kind = RootFinder.class.getModifiers();
        Due.holds("the class is public and final", Modifier.isPublic(kind) && Modifier.isFinal(kind));
        Due.holds("the methods are the document's", methods().equals(FACE));
        for (Field field : RootFinder.class.getDeclaredFields()) {
            Due.holds("the field " + field + " is private", Modifier.isPrivate(field.getModifiers()));
            Due.holds("the field " + field + " is no changing static state",
                !Modifier.isStatic(field.getModifiers()) || Modifier.isFinal(field.getModifiers()));
        }
        Constructor<?>[] constructors = RootFinder.class.getDeclaredConstructors();
        Due.is("number of constructors", constructors.length, 1);
        Due.holds("the constructor is public and takes nothing",
            Modifier.isPublic(constructors[0].getModifiers())
                && constructors[0].getParameterCount() == 0);
        Due.end();
    }

    private static Set<String> methods() {
        Set<String> seen = new TreeSet<>();
        for (Method method : RootFinder.class.getDeclaredMethods()) {
            if (!Modifier.isPrivate(method.getModifiers())) {
                seen.add(describe(method));
            } else {
                Due.holds("no private method is named " + method.getName(),
                    FACE.stream().noneMatch(line -> line.startsWith("int " + method.getName() + "(")));
            }
        }
        return seen;
    }

    private static String describe(Method method) {
        String types = Arrays.toString(method.getParameterTypes());
        StringBuilder text = new StringBuilder();
        text.append(method.getReturnType()).append(' ').append(method.getName());
        text.append('(').append(types, 1, types.length() - 1).append(')');
        for (Class<?> thrown : method.getExceptionTypes()) {
            text.append(' ').append(thrown.getSimpleName());
        }
        return text.toString();
    }
}
