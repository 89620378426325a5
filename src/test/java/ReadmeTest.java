import java.io.IOException;
import java.lang.reflect.Method;
import java.lang.reflect.Modifier;
import java.nio.file.Files;
import java.nio.file.Path;
import java.util.Set;
import java.util.TreeSet;
import java.util.regex.Matcher;
import java.util.regex.Pattern;

/** The example in README.md answers what stands behind its calls, and it has every call of the face. */
public final class ReadmeTest {
    private static final Due DUE = new Due();
    // a call on x, and behind it the answer up to a colon or the end of the line
    private static final Pattern CALL = Pattern.compile("x\\.(\\w+)\\(([^)]*)\\); +// ([^:]+)(:.*)?");

    public static void main(String[] args) throws IOException, ReflectiveOperationException {
        FannedSites x = new FannedSites();
        Set<String> shown = new TreeSet<>();
        for (String line : Files.readAllLines(Path.of("README.md"))) {
            Matcher call = CALL.matcher(line);
            boolean isCall = call.matches();
            DUE.same("a call that can be read: " + line, isCall, line.startsWith("x."));
            if (isCall) {
                Object got = answer(x, call.group(1), call.group(2));
                DUE.same(line + " (answered " + got + ")", got.toString().equals(call.group(3)), true);
                shown.add(call.group(1));
            }
        }
        for (Method method : FannedSites.class.getDeclaredMethods()) {
            if (isPublic(method)) {
                DUE.same("README.md shows " + method.getName(), shown.contains(method.getName()), true);
            }
        }
        DUE.end();
    }

    private static Object answer(FannedSites x, String name, String list) throws ReflectiveOperationException {
        String[] words = list.isEmpty() ? new String[0] : list.split(", ");
        Object[] numbers = new Object[words.length];
        for (int i = 0; i < words.length; i++) {
            numbers[i] = Integer.valueOf(words[i]);
        }
        for (Method method : FannedSites.class.getDeclaredMethods()) {
            if (isPublic(method) && method.getName().equals(name) && method.getParameterCount() == words.length) {
                return method.invoke(x, numbers);
            }
        }
        return "nothing: there is no such call";
    }

    private static boolean isPublic(Method method) {
        return Modifier.isPublic(method.getModifiers());
    }
}
