import java.lang.reflect.Constructor;
import java.lang.reflect.Field;
import java.lang.reflect.Method;
import java.lang.reflect.Modifier;
import java.nio.file.Files;
import java.nio.file.Path;
import java.util.List;
import java.util.StringJoiner;
import java.util.TreeSet;
import java.util.regex.Matcher;
import java.util.regex.Pattern;

/** The public face, as the document writes it. */
public final class FaceTest {
    private static final Path DOC = Path.of("../shared/DOC.md");

    public static void main(String[] args) throws Exception {
        face();
        Check.end();
    }

    private static void face() throws Exception {
        String doc = Files.readString(DOC);
        TreeSet<String> due = new TreeSet<>();
        Matcher m = Pattern.compile("(?m)^    public (int|long) (\\w+)\\(([^)]*)\\);").matcher(doc);
        while (m.find()) {
            due.add(m.group(1) + " " + m.group(2) + " " + m.group(3).replaceAll("(\\w+) \\w+(, )?", "$1 ").trim());
        }
        Check.due("methods in the document", 34, due.size());
        TreeSet<String> is = new TreeSet<>();
        TreeSet<String> names = new TreeSet<>();
        for (Method method : LeftCrest.class.getDeclaredMethods()) {
            if (method.isSynthetic()) continue;
            if (Modifier.isPublic(method.getModifiers())) {
                StringJoiner types = new StringJoiner(" ");
                for (Class<?> type : method.getParameterTypes()) types.add(type.getName());
                is.add(method.getReturnType() + " " + method.getName() + " " + types);
                names.add(method.getName());
            } else {
                Check.holds(method.getName() + " is private", Modifier.isPrivate(method.getModifiers()));
            }
        }
        Check.holds("the face: " + is + ", due is " + due, is.equals(due));
        for (Method method : LeftCrest.class.getDeclaredMethods()) {
            boolean hidden = Modifier.isPrivate(method.getModifiers());
            Check.holds(method.getName() + " bears no public name", !hidden || !names.contains(method.getName()));
        }
        for (Class<?> c : LeftCrest.class.getDeclaredClasses()) {
            for (Method method : c.getDeclaredMethods()) {
                Check.holds(c + "." + method.getName() + " bears no public name", !names.contains(method.getName()));
            }
        }
        Constructor<?>[] made = LeftCrest.class.getDeclaredConstructors();
        Check.holds("one constructor, public", made.length == 1 && Modifier.isPublic(made[0].getModifiers()));
        Check.holds("public final class", LeftCrest.class.getModifiers() == (Modifier.PUBLIC | Modifier.FINAL));
        constants();
    }

    private static void constants() throws Exception {
        TreeSet<String> open = new TreeSet<>();
        for (Field field : LeftCrest.class.getDeclaredFields()) {
            int how = field.getModifiers();
            Check.holds(field + " static is final", !Modifier.isStatic(how) || Modifier.isFinal(how));
            if (!Modifier.isPrivate(how)) open.add(field.getName() + " " + field.get(null));
        }
        Check.holds("constants: " + open, open.equals(new TreeSet<>(List.of("NONE -1", "BAD -2", "NO -3", "FULL -4"))));
    }
}
