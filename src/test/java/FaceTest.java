import java.lang.reflect.Constructor;
import java.lang.reflect.Field;
import java.lang.reflect.Method;
import java.lang.reflect.Modifier;
import java.nio.file.Files;
import java.nio.file.Path;
import java.util.ArrayList;
import java.util.List;
import java.util.TreeSet;
import java.util.regex.Matcher;
import java.util.regex.Pattern;

/** The public face, and those rules of LANGUAGE.md that can be seen by reading. */
public final class FaceTest {
    private static final Path MAIN = Path.of("src/main/java/LeftCrest.java");
    private static final Path DOC = Path.of("../shared/DOC.md");

    public static void main(String[] args) throws Exception {
        face();
        nested();
        words(Files.readString(MAIN));
        Check.end();
    }

    private static void face() throws Exception {
        String doc = Files.readString(DOC);
        TreeSet<String> due = new TreeSet<>();
        Matcher m = Pattern.compile("(?m)^    public (int|long) (\\w+)\\(([^)]*)\\);").matcher(doc);
        while (m.find()) {
            int n = m.group(3).isBlank() ? 0 : m.group(3).split(",").length;
            due.add(m.group(1) + " " + m.group(2) + " " + n);
        }
        Check.due("methods in the document", 34, due.size());
        TreeSet<String> is = new TreeSet<>();
        TreeSet<String> names = new TreeSet<>();
        for (Method method : LeftCrest.class.getDeclaredMethods()) {
            if (method.isSynthetic()) continue;
            if (Modifier.isPublic(method.getModifiers())) {
                is.add(method.getReturnType() + " " + method.getName() + " " + method.getParameterCount());
                names.add(method.getName());
            } else {
                Check.holds(method.getName() + " is private", Modifier.isPrivate(method.getModifiers()));
            }
        }
        Check.holds("the face: " + is + ", due is " + due, is.equals(due));
        for (Method method : LeftCrest.class.getDeclaredMethods()) {
            boolean hidden = Modifier.isPrivate(method.getModifiers());
            Check.holds(method.getName() + " bears no public name", !hidden || !names.contains(method.getName()));
        }
        for (Class<?> c : LeftCrest.class.getDeclaredClasses()) {
            for (Method method : c.getDeclaredMethods()) {
                Check.holds(c + "." + method.getName() + " bears no public name", !names.contains(method.getName()));
            }
        }
        Constructor<?>[] made = LeftCrest.class.getDeclaredConstructors();
        Check.holds("one constructor, public", made.length == 1 && Modifier.isPublic(made[0].getModifiers()));
        Check.holds("public final class", LeftCrest.class.getModifiers() == (Modifier.PUBLIC | Modifier.FINAL));
        constants();
    }

    private static void constants() throws Exception {
        TreeSet<String> open = new TreeSet<>();
        for (Field field : LeftCrest.class.getDeclaredFields()) {
            int how = field.getModifiers();
            Check.holds(field + " static is final", !Modifier.isStatic(how) || Modifier.isFinal(how));
            if (!Modifier.isPrivate(how)) open.add(field.getName() + " " + field.get(null));
        }
        Check.holds("constants: " + open, open.equals(new TreeSet<>(List.of("NONE -1", "BAD -2", "NO -3", "FULL -4"))));
    }

    private static void nested() {
        Class<?>[] inside = LeftCrest.class.getDeclaredClasses();
        Check.holds("some twelve classes at most", inside.length < 12);
        for (Class<?> c : inside) {
            Check.holds(c + " is static", Modifier.isStatic(c.getModifiers()));
            Check.holds(c + " is not public", (c.getModifiers() & (Modifier.PUBLIC | Modifier.PROTECTED)) == 0);
            int fields = 0;
            for (Field field : c.getDeclaredFields()) {
                if (!Modifier.isStatic(field.getModifiers())) fields++;
                else Check.holds(field + " is final", Modifier.isFinal(field.getModifiers()));
            }
            Check.holds(c + " has some twenty fields at most", fields <= 20);
            for (Method method : c.getDeclaredMethods()) {
                Check.holds(method + " takes seven at most", method.getParameterCount() <= 7);
            }
        }
    }

    private static void words(String source) {
        String code = source.replaceAll("(?s)/\\*.*?\\*/", "").replaceAll("//[^\n]*", "");
        List<String> barred = new ArrayList<>(List.of("throw", "throws", "try", "catch", "synchronized", "assert", "import",
                "package", "Random", "Thread", "System\\.(?!arraycopy)", "->", "::", "Exact", "hashCode", "toString"));
        for (String word : barred) {
            String bound = word.matches("\\w+") ? "\\b" + word + "\\b" : word;
            Check.holds("no " + word, !Pattern.compile(bound).matcher(code).find());
        }
        for (int i = 0; i < source.length(); i++) {
            if (source.charAt(i) > 126) Check.holds("a sign of ASCII at " + i, false);
        }
    }
}
