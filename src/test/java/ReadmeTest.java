import java.io.ByteArrayOutputStream;
import java.io.IOException;
import java.io.PrintStream;
import java.lang.reflect.Method;
import java.lang.reflect.Modifier;
import java.net.URL;
import java.net.URLClassLoader;
import java.nio.charset.StandardCharsets;
import java.nio.file.Files;
import java.nio.file.Path;
import java.util.Comparator;
import java.util.List;
import java.util.stream.Collectors;
import java.util.stream.Stream;
import javax.tools.ToolProvider;

/** README.md: its program compiles and says what stands there, and every call and every test stands in its tables. */
final class ReadmeTest {
    private static final Due due = new Due();

    private ReadmeTest() {
    }

    public static void main(String[] args) throws Exception {
        String page = Files.readString(Path.of("README.md"));
        program(block(page, "java"), block(page, "text"));
        calls(page);
        tests(page);
        due.end("ReadmeTest");
    }

    private static String block(String page, String kind) {
        String mark = "```" + kind + "\n";
        int from = page.indexOf(mark);
        int to = from < 0 ? -1 : page.indexOf("```", from + mark.length());
        due.is("README.md has a block of " + kind, to > from, true);
        return to > from ? page.substring(from + mark.length(), to) : "";
    }

    private static void program(String source, String says) throws Exception {
        Path place = Files.createTempDirectory("readme");
        try {
            Path file = Files.writeString(place.resolve("Example.java"), source);
            String classes = System.getProperty("java.class.path");
            int failed = ToolProvider.getSystemJavaCompiler()
                .run(null, null, null, "-cp", classes, "-d", place.toString(), file.toString());
            due.is("compiling README.md's program", failed, 0);
            String said = failed == 0 ? said(place) : "";
            due.is("README.md's program says\n" + said + "which is as there", said.equals(says), true);
        } finally {
            remove(place);
        }
    }

    private static String said(Path place) throws Exception {
        PrintStream out = System.out;
        ByteArrayOutputStream bytes = new ByteArrayOutputStream();
        try (URLClassLoader loader = new URLClassLoader(new URL[] {place.toUri().toURL()})) {
            System.setOut(new PrintStream(bytes, true, StandardCharsets.UTF_8));
            loader.loadClass("Example").getMethod("main", String[].class).invoke(null, (Object) new String[0]);
        } finally {
            System.setOut(out);
        }
        return bytes.toString(StandardCharsets.UTF_8).replace(System.lineSeparator(), "\n");
    }

    private static void remove(Path place) throws IOException {
        try (Stream<Path> all = Files.walk(place)) {
            for (Path path : all.sorted(Comparator.reverseOrder()).collect(Collectors.toList())) {
                Files.delete(path);
            }
        }
    }

    private static List<String> rows(String page) {
        return page.lines().filter(line -> line.startsWith("| ")).collect(Collectors.toList());
    }

    private static void calls(String page) {
        for (Method method : ThimbleLaw.class.getDeclaredMethods()) {
            if (Modifier.isPublic(method.getModifiers())) {
                String commas = ", \\w+".repeat(Math.max(0, method.getParameterCount() - 1));
                String call = "`" + method.getName() + "\\(" + (method.getParameterCount() > 0 ? "\\w+" : "") + commas + "\\)`";
                long count = rows(page).stream().filter(row -> row.split("\\|")[1].matches(".*" + call + ".*")).count();
                due.is("rows of README.md with the call " + method.getName(), count, 1);
            }
        }
    }

    private static void tests(String page) throws IOException {
        try (Stream<Path> files = Files.list(Path.of("src", "test", "java"))) {
            for (Path file : files.collect(Collectors.toList())) {
                String name = file.getFileName().toString().replace(".java", "");
                boolean told = rows(page).stream().anyMatch(row -> row.split("\\|")[1].matches(".*\\b" + name + "\\b.*"));
                due.is("README.md tells of " + name, told, name.endsWith("Test"));
            }
        }
    }
}
