import java.lang.reflect.Method;
import java.lang.reflect.Modifier;
import java.net.URL;
import java.net.URLClassLoader;
import java.nio.file.DirectoryStream;
import java.nio.file.Files;
import java.nio.file.Path;
import java.util.TreeSet;
import java.util.function.BiConsumer;
import java.util.regex.Matcher;
import java.util.regex.Pattern;
import javax.tools.ToolProvider;

/** README.md: its examples are compiled and run, its tables have every call and every test. */
public final class ReadmeTest {
    private static final Pattern BLOCK = Pattern.compile("(?s)```java\n(.*?)```");
    private static final Pattern ANSWERED = Pattern.compile("(?m)^(x\\..*\\)); *// (-?\\d+)(?!\\d).*$");

    public static void main(String[] args) throws Exception {
        String page = Files.readString(Path.of("README.md"));
        examples(page);
        calls(page);
        tests(page);
        Check.end();
    }

    private static void examples(String page) throws Exception {
        Path dir = Files.createTempDirectory("readme");
        int blocks = 0;
        Matcher m = BLOCK.matcher(page);
        while (m.find()) {
            blocks++;
            run(dir, "Example" + blocks, m.group(1));
        }
        Check.due("README.md: examples", 2, blocks);
        try (DirectoryStream<Path> files = Files.newDirectoryStream(dir)) {
            for (Path file : files) Files.delete(file);
        }
        Files.delete(dir);
    }

    private static void run(Path dir, String name, String block) throws Exception {
        for (String line : block.split("\n")) {
            Check.holds("README.md: " + line + " tells its answer", !line.startsWith("x.") || ANSWERED.matcher(line).matches());
        }
        String body = ANSWERED.matcher(block).replaceAll("due.accept(\"$1\", new long[] {$2, $1});");
        Path file = dir.resolve(name + ".java");
        Files.writeString(file, "public final class " + name + " { public static void run("
                + "java.util.function.BiConsumer<String, long[]> due) {\n" + body + "} }\n");
        int code = ToolProvider.getSystemJavaCompiler().run(null, null, null, "-cp",
                System.getProperty("java.class.path"), "-d", dir.toString(), file.toString());
        Check.due("README.md: javac of " + name, 0, code);
        if (code != 0) return;
        BiConsumer<String, long[]> due = (call, row) -> Check.due("README.md: " + call, row[0], row[1]);
        try (URLClassLoader loader = new URLClassLoader(new URL[] {dir.toUri().toURL()})) {
            loader.loadClass(name).getMethod("run", BiConsumer.class).invoke(null, due);
        }
    }

    private static void calls(String page) throws Exception {
        TreeSet<String> told = found(page, "(?m)^\\| `(\\w+\\([^)]*\\))` \\|");
        TreeSet<String> due = found(Files.readString(Path.of("../shared/DOC.md")), "(?m)^    public (?:int|long) (\\w+\\([^)]*\\));");
        Check.holds("README.md has the calls " + due + ", it has " + told, told.equals(due));
        for (Method method : LeftCrest.class.getDeclaredMethods()) {
            if (!Modifier.isPublic(method.getModifiers())) continue;
            Check.holds("README.md has " + method.getName(), page.contains("| `" + method.getName() + "("));
        }
    }

    private static void tests(String page) throws Exception {
        TreeSet<String> there = new TreeSet<>();
        try (DirectoryStream<Path> files = Files.newDirectoryStream(Path.of("src/test/java"), "*Test.java")) {
            for (Path file : files) there.add(file.getFileName().toString().replace(".java", ""));
        }
        TreeSet<String> told = found(page, "(?m)^\\| (\\w+Test) \\|");
        Check.holds("README.md has the tests " + there + ", it has " + told, told.equals(there));
    }

    private static TreeSet<String> found(String text, String what) {
        TreeSet<String> all = new TreeSet<>();
        Matcher m = Pattern.compile(what).matcher(text);
        while (m.find()) all.add(m.group(1));
        return all;
    }
}
