import java.io.IOException;
import java.lang.reflect.InvocationTargetException;
import java.lang.reflect.Method;
import java.nio.file.Files;
import java.nio.file.Path;
import java.util.Set;
import java.util.TreeSet;
import java.util.regex.Matcher;
import java.util.regex.Pattern;

/** The calls that README.md shows answer what it says, and it leaves no call of the face out. */
public final class ReadmeTest {
    private static final String CALL = "finder.";
    private static final Pattern SHOWN =
        Pattern.compile("finder\\.(\\w+)\\(([-\\d, ]+)\\); +// (?:(-?\\d+)|throws (\\w+))\\b.*");

    private final RootFinder finder = new RootFinder();
    private final Set<String> shown = new TreeSet<>();

    public static void main(String[] args) throws IOException, IllegalAccessException {
        String readme = Files.readString(Path.of("README.md"));
        ReadmeTest test = new ReadmeTest();
        for (String line : readme.split("\n")) {
            if (line.startsWith(CALL)) {
                test.check(line);
            }
        }
        for (String name : face()) {
            Due.holds("README.md shows no call of " + name, test.shown.contains(name));
            Due.holds("README.md has no row for " + name, readme.contains("\n| `" + name + "("));
        }
        Due.end();
    }

    private void check(String line) throws IllegalAccessException {
        Matcher parts = SHOWN.matcher(line);
        boolean readable = parts.matches();
        Due.holds("README.md shows a call without its answer: " + line, readable);
        if (readable) {
            shown.add(parts.group(1));
            String want = parts.group(3) == null ? parts.group(4) : parts.group(3);
            String got = answer(parts.group(1), parts.group(2).split(", "));
            Due.holds("README.md shows " + line + " but the answer is " + got, got.equals(want));
        }
    }

    private String answer(String name, String[] numbers) throws IllegalAccessException {
        for (Method method : RootFinder.class.getMethods()) {
            if (method.getName().equals(name) && method.getParameterCount() == numbers.length) {
                try {
                    return String.valueOf(method.invoke(finder, arguments(method, numbers)));
                } catch (InvocationTargetException e) {
                    return e.getCause().getClass().getSimpleName();
                }
            }
        }
        return "that there is no such call";
    }

    private static Object[] arguments(Method method, String[] numbers) {
        Object[] made = new Object[numbers.length];
        for (int i = 0; i < made.length; i++) {
            if (method.getParameterTypes()[i] == long.class) {
                made[i] = Long.valueOf(numbers[i]);
            } else {
                made[i] = Integer.valueOf(numbers[i]);
            }
        }
        return made;
    }

    private static Set<String> face() {
        Set<String> names = new TreeSet<>();
        for (Method method : RootFinder.class.getMethods()) {
            if (method.getDeclaringClass() == RootFinder.class) {
                names.add(method.getName());
            }
        }
        return names;
    }
}
