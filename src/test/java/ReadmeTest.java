import java.io.IOException;
import java.lang.reflect.InvocationTargetException;
import java.lang.reflect.Method;
import java.lang.reflect.Modifier;
import java.nio.file.Files;
import java.nio.file.Paths;
import java.util.HashMap;
import java.util.Map;
import java.util.Set;
import java.util.TreeSet;
import java.util.regex.Matcher;
import java.util.regex.Pattern;

/** Makes the calls that README.md shows: each answers what stands behind it, and no call of the face is missing. */
public final class ReadmeTest {
    private static final Pattern SHOWN =
        Pattern.compile("(?:int (\\w+) = )?forge\\.(\\w+)\\(([^)]*)\\);\\s*// ([\\w-]+).*");

    private static final FormForge FORGE = new FormForge();
    private static final Map<String, Integer> NAMED = new HashMap<>();

    private static Method call(String name) {
        for (Method method : FormForge.class.getDeclaredMethods()) {
            if (Modifier.isPublic(method.getModifiers()) && method.getName().equals(name)) return method;
        }
        throw new Error("README.md shows a call that the face does not have: " + name);
    }

    private static Object[] arguments(String row) {
        if (row.isEmpty()) return new Object[0];
        String[] parts = row.split(", ");
        Object[] arguments = new Object[parts.length];
        for (int i = 0; i < parts.length; i++) {
            Integer named = NAMED.get(parts[i]);
            arguments[i] = named != null ? named : Integer.valueOf(parts[i]);
        }
        return arguments;
    }

    private static String answer(Method method, Object[] arguments) throws IllegalAccessException {
        try {
            return method.invoke(FORGE, arguments).toString();
        } catch (InvocationTargetException e) {
            return e.getCause().getClass().getSimpleName();
        }
    }

    private static void show(Matcher line) throws IllegalAccessException {
        String answer = answer(call(line.group(2)), arguments(line.group(3)));
        Due.same(line.group(), line.group(4), answer);
        if (line.group(1) != null) NAMED.put(line.group(1), Integer.valueOf(answer));
    }

    public static void main(String[] args) throws IOException, IllegalAccessException {
        Set<String> missing = new TreeSet<>();
        for (Method method : FormForge.class.getDeclaredMethods()) {
            if (Modifier.isPublic(method.getModifiers())) missing.add(method.getName());
        }
        for (String line : Files.readAllLines(Paths.get("README.md"))) {
            if (!line.contains("forge.")) continue;
            Matcher shown = SHOWN.matcher(line);
            Due.same(line + " is a call with its answer", "true", "" + shown.matches());
            if (!shown.matches()) continue;
            missing.remove(shown.group(2));
            show(shown);
        }
        Due.same("calls that README.md does not show", "[]", missing.toString());
        Due.close("ReadmeTest");
    }

    private ReadmeTest() {
    }
}
