import java.lang.reflect.Constructor;
import java.lang.reflect.Field;
import java.lang.reflect.Member;
import java.lang.reflect.Method;
import java.lang.reflect.Modifier;
import java.nio.file.Files;
import java.nio.file.Path;
import java.util.Set;
import java.util.TreeSet;
import java.util.regex.Matcher;
import java.util.regex.Pattern;

/** The class's face is the document's: each constant, constructor and method as it stands there, and no other. */
public final class FaceTest {
    private static final Path DOCUMENT = Path.of("../shared/DOC.md");
    private static final Pattern MEMBER = Pattern.compile("    (public [^=]+?)( = (-?\\d+))?;");
    private static final Pattern PROMISE = Pattern.compile("`(\\w+ \\w+|\\w+)\\(([^)]*)\\)`: .*");

    public static void main(String[] args) throws Exception {
        Checks.at("the public face");
        Checks.due("public and final", Modifier.PUBLIC | Modifier.FINAL, ThanksByPost.class.getModifiers());
        Checks.yes("no class above it", ThanksByPost.class.getSuperclass() == Object.class);
        Checks.due("no interfaces", 0, ThanksByPost.class.getInterfaces().length);
        Checks.yes("no package", ThanksByPost.class.getPackageName().isEmpty());
        Set<String> told = new TreeSet<>();
        Set<String> promised = new TreeSet<>();
        for (String line : Files.readAllLines(DOCUMENT)) {
            Matcher member = MEMBER.matcher(line);
            if (member.matches()) {
                told.add(withoutNames(member.group(1)));
                if (member.group(3) != null) constant(member.group(1), Integer.parseInt(member.group(3)));
            }
            Matcher promise = PROMISE.matcher(line);
            if (promise.matches()) promised.add(withoutNames("public " + promise.group(1) + "(" + promise.group(2) + ")"));
        }
        Set<String> got = new TreeSet<>();
        for (Field f : ThanksByPost.class.getDeclaredFields()) add(got, f, f.getType().getSimpleName() + " " + f.getName());
        for (Method m : ThanksByPost.class.getDeclaredMethods()) {
            add(got, m, m.getReturnType().getSimpleName() + " " + m.getName() + types(m.getParameterTypes()));
            Checks.due("exceptions of " + m, 0, m.getExceptionTypes().length);
        }
        for (Constructor<?> c : ThanksByPost.class.getDeclaredConstructors()) {
            add(got, c, "ThanksByPost" + types(c.getParameterTypes()));
        }
        Checks.due("promises", 40, promised.size());
        Checks.yes("as the document: " + told + " is " + got, told.equals(got));
        told.removeAll(promised);
        Checks.yes("the constant alone is no promise's: " + told, told.equals(Set.of("public static final int NONE")));
        Checks.end();
    }

    /** What isn't private is the face's; the machine's own members are none. */
    private static void add(Set<String> face, Member m, String shown) {
        if (Modifier.isPrivate(m.getModifiers()) || m.isSynthetic()) return;
        String ahead = Modifier.toString(m.getModifiers());
        face.add(ahead + (ahead.isEmpty() ? "" : " ") + shown);
    }

    private static String types(Class<?>[] parameters) {
        StringBuilder out = new StringBuilder("(");
        for (Class<?> p : parameters) out.append(out.length() > 1 ? ", " : "").append(p.getSimpleName());
        return out + ")";
    }

    private static String withoutNames(String member) {
        return member.replaceAll("(int|long|boolean) \\w+(?=[,)])", "$1");
    }

    private static void constant(String member, int want) throws Exception {
        Field f = ThanksByPost.class.getDeclaredField(member.substring(member.lastIndexOf(' ') + 1));
        // Read from the class itself: a name in the source is put there when the test is compiled.
        Checks.due(member, want, f.getInt(null));
    }
}
