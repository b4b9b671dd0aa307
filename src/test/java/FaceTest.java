import java.io.IOException;
import java.lang.reflect.Field;
import java.lang.reflect.Method;
import java.lang.reflect.Modifier;
import java.nio.file.Files;
import java.nio.file.Paths;
import java.util.Set;
import java.util.TreeSet;

/** The public face, and those rules of ../shared/LANGUAGE.md that can be seen from outside. */
public final class FaceTest {
    private static final String[] FACE = {
        "int prime(int) IllegalArgumentException",
        "int form(int, int) IllegalArgumentException, IllegalStateException",
        "int formIs(int, int) IndexOutOfBoundsException, IllegalArgumentException",
        "int at(int, int, int) IndexOutOfBoundsException, IllegalArgumentException",
        "int multiplicity(int, int) IndexOutOfBoundsException",
        "int generator(int, int, int, int) IllegalArgumentException, IllegalStateException",
        "int order()",
        "int changed(int, int) IndexOutOfBoundsException",
        "int average(int) IndexOutOfBoundsException",
        "int dimension(int) IllegalArgumentException",
        "int dimensionAnew(int) IllegalArgumentException",
        "int transvectant(int, int, int) IndexOutOfBoundsException, IllegalArgumentException",
        "int value(int, int) IndexOutOfBoundsException, IllegalArgumentException",
        "boolean weighs()",
        "int way(int, int) IndexOutOfBoundsException, IllegalArgumentException",
        "int step(int, int, int) IndexOutOfBoundsException, IllegalArgumentException",
        "int orbits(int) IllegalArgumentException",
        "int orbitsAnew(int) IllegalArgumentException"};
    private static final String[] RULED_OUT = {
        "->", "::", "catch", "finally", "synchronized", "assert ", "instanceof", "System.", "Random", "Thread",
        "Exact(", "hashCode", "equals(", "toString", "double", "float", "\" +", "+ \"", "protected", "package "};

    private static String row(Class<?>[] types) {
        StringBuilder row = new StringBuilder();
        for (Class<?> type : types) {
            row.append(row.length() > 0 ? ", " : "").append(type.getSimpleName());
        }
        return row.toString();
    }

    private static void face() {
        Set<String> want = new TreeSet<>();
        for (String line : FACE) want.add(line);
        Set<String> got = new TreeSet<>();
        for (Method method : FormForge.class.getDeclaredMethods()) {
            int how = method.getModifiers();
            if (method.isSynthetic() || Modifier.isPrivate(how)) continue;
            Due.same("public, not static: " + method.getName(), "true",
                "" + (Modifier.isPublic(how) && !Modifier.isStatic(how)));
            got.add((method.getReturnType() + " " + method.getName() + "(" + row(method.getParameterTypes()) + ") "
                + row(method.getExceptionTypes())).trim());
        }
        Due.same("the face", want.toString(), got.toString());
        Due.is("constructors", 1, () -> FormForge.class.getDeclaredConstructors().length);
        Due.same("the class", "public final", Modifier.toString(FormForge.class.getModifiers()));
    }

    private static void members(Class<?> one, Set<String> publicNames) {
        for (Method method : one.getDeclaredMethods()) {
            if (one == FormForge.class && Modifier.isPublic(method.getModifiers())) continue;
            Due.same(one.getSimpleName() + "." + method.getName() + " has a name of its own", "true",
                "" + !publicNames.contains(method.getName()));
            Due.same(method.getName() + " has at most seven parameters", "true",
                "" + (method.getParameterCount() <= 7));
        }
        int fields = 0;
        for (Field field : one.getDeclaredFields()) {
            int how = field.getModifiers();
            fields += Modifier.isStatic(how) ? 0 : 1;
            Due.same(field.getName() + " is final if it is static", "true",
                "" + (!Modifier.isStatic(how) || Modifier.isFinal(how)));
            Due.same(field.getName() + " is private, or NONE", "true",
                "" + (one != FormForge.class || Modifier.isPrivate(how) || field.getName().equals("NONE")));
        }
        Due.same(one.getSimpleName() + " has at most twenty fields", "true", "" + (fields <= 20));
    }

    public static void main(String[] args) throws IOException {
        face();
        Set<String> names = new TreeSet<>();
        for (String line : FACE) names.add(line.substring(line.indexOf(' ') + 1, line.indexOf('(')));
        members(FormForge.class, names);
        Class<?>[] inside = FormForge.class.getDeclaredClasses();
        Due.same("at most twelve classes", "true", "" + (inside.length < 12));
        for (Class<?> one : inside) {
            Due.same(one.getSimpleName() + " is static", "true", "" + Modifier.isStatic(one.getModifiers()));
            members(one, names);
        }
        String text = new String(Files.readAllBytes(Paths.get("src/main/java/FormForge.java")), "UTF-8");
        for (String part : RULED_OUT) {
            Due.same("the program holds '" + part + "'", "false", "" + text.contains(part));
        }
        Due.close("FaceTest");
    }
}
