import java.io.ByteArrayOutputStream;
import java.io.File;
import java.io.PrintStream;
import java.lang.reflect.Method;
import java.lang.reflect.Modifier;
import java.net.URL;
import java.net.URLClassLoader;
import java.nio.file.Files;
import java.nio.file.Path;
import java.util.HashMap;
import java.util.Map;
import java.util.regex.Matcher;
import java.util.regex.Pattern;
import java.util.spi.ToolProvider;

/** README.md: its example prints what stands behind it, and it names every call of the face and every test. */
public final class ReadmeTest {
    private static final Check CHECK = new Check("ReadmeTest");

    public static void main(String[] args) throws Exception {
        String page = Files.readString(Path.of("README.md"));
        example(block(page, "java"), block(page, "text"));
        calls(page);
        tests(page);
        CHECK.end();
    }

    /** What stands in the page's only block of that kind. */
    private static String block(String page, String kind) {
        Matcher block = Pattern.compile("(?s)```" + kind + "\n(.*?)```").matcher(page);
        boolean there = block.find();
        CHECK.yes("a block of " + kind, there);
        return there ? block.group(1) : "";
    }

    private static void example(String code, String due) throws Exception {
        Path where = Files.createTempDirectory("readme");
        Path file = where.resolve("Example.java");
        Files.writeString(file, code);
        String classes = new File(BarterIsles.class.getProtectionDomain().getCodeSource().getLocation().toURI()).getPath();
        int refused = ToolProvider.findFirst("javac").orElseThrow()
            .run(System.out, System.out, "-cp", classes, "-d", where.toString(), file.toString());
        CHECK.is("the example compiles", 0, refused);
        if (refused == 0) {
            String[] dueLines = due.split("\n");
            String[] lines = printed(where).split("\n");
            CHECK.is("lines of the example", dueLines.length, lines.length);
            for (int i = 0; i < dueLines.length && i < lines.length; i++) {
                CHECK.yes("the example prints '" + lines[i] + "', the page '" + dueLines[i] + "'", lines[i].equals(dueLines[i]));
            }
        }
        for (File left : where.toFile().listFiles()) {
            Files.delete(left.toPath());
        }
        Files.delete(where);
    }

    private static String printed(Path where) throws Exception {
        ByteArrayOutputStream bytes = new ByteArrayOutputStream();
        PrintStream before = System.out;
        try (URLClassLoader loader = new URLClassLoader(new URL[] {where.toUri().toURL()})) {
            System.setOut(new PrintStream(bytes, true));
            loader.loadClass("Example").getMethod("main", String[].class).invoke(null, (Object) new String[0]);
        } finally {
            System.setOut(before);
        }
        return bytes.toString().replace("\r\n", "\n");
    }

    /** The first thing of a table's row are calls, each with as many parameters as the face has. */
    private static void calls(String page) {
        Map<String, Integer> told = new HashMap<>();
        Matcher row = Pattern.compile("(?m)^\\| ([^|]*\\([^|]*) \\|").matcher(page);
        while (row.find()) {
            Matcher call = Pattern.compile("`(\\w+)\\(([^)]*)\\)`").matcher(row.group(1));
            while (call.find()) {
                told.put(call.group(1), call.group(2).isEmpty() ? 0 : call.group(2).split(",").length);
            }
        }
        int open = 0;
        for (Method method : BarterIsles.class.getDeclaredMethods()) {
            if (Modifier.isPublic(method.getModifiers())) {
                open++;
                CHECK.is("parameters of " + method.getName() + " on the page", method.getParameterCount(), told.getOrDefault(method.getName(), -1));
            }
        }
        CHECK.is("calls on the page", open, told.size());
    }

    private static void tests(String page) {
        for (String file : new File("src/test/java").list()) {
            String name = file.replace(".java", "");
            CHECK.yes("the page names " + name, !name.endsWith("Test") || page.contains("`" + name + "`"));
        }
        CHECK.yes("the page tells how to run them", page.contains("\n.ci/run\n"));
    }
}
