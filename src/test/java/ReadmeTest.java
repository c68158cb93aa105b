import java.io.ByteArrayOutputStream;
import java.io.IOException;
import java.io.PrintStream;
import java.lang.reflect.Method;
import java.lang.reflect.Modifier;
import java.net.URL;
import java.net.URLClassLoader;
import java.nio.file.Files;
import java.nio.file.Path;
import java.util.ArrayList;
import java.util.Comparator;
import java.util.List;
import java.util.stream.Stream;
import javax.tools.ToolProvider;

/** README.md: its example prints what it says, and its tables name each call of the face with what it throws. */
final class ReadmeTest {
    private static final Path README = Path.of("README.md");
    private static final String FENCE = "```";

    private ReadmeTest() {
    }

    public static void main(String[] args) throws Exception {
        List<String> lines = Files.readAllLines(README);
        int fence = lines.indexOf(FENCE + "java");
        List<String> example = block(lines, fence);
        List<String> behind = lines.subList(fence + example.size() + 2, lines.size());
        Check.same("the example", run(example), block(behind, behind.indexOf(FENCE)));
        tables(lines);
        Check.end();
    }

    private static List<String> block(List<String> lines, int fence) {
        List<String> inside = lines.subList(fence + 1, lines.size());
        return inside.subList(0, inside.indexOf(FENCE));
    }

    /** In a directory of its own, so that the example is compiled with the class alone. */
    private static List<String> run(List<String> source) throws Exception {
        Path directory = Files.createTempDirectory("example");
        try {
            Path file = Files.write(directory.resolve("Example.java"), source);
            int failed = ToolProvider.getSystemJavaCompiler().run(null, null, null, "-d", directory.toString(),
                    file.toString(), "src/main/java/FriendBackup.java");
            Check.due("the example compiles with", failed, 0);
            return failed == 0 ? output(directory) : List.of();
        } finally {
            delete(directory);
        }
    }

    private static List<String> output(Path directory) throws Exception {
        ByteArrayOutputStream bytes = new ByteArrayOutputStream();
        PrintStream usual = System.out;
        ClassLoader platform = ClassLoader.getPlatformClassLoader();
        try (URLClassLoader loader = new URLClassLoader(new URL[] {directory.toUri().toURL()}, platform)) {
            System.setOut(new PrintStream(bytes, true));
            loader.loadClass("Example").getMethod("main", String[].class).invoke(null, (Object) new String[0]);
        } finally {
            System.setOut(usual);
        }
        return bytes.toString().lines().toList();
    }

    private static void delete(Path directory) throws IOException {
        try (Stream<Path> paths = Files.walk(directory)) {
            for (Path path : paths.sorted(Comparator.reverseOrder()).toList()) {
                Files.delete(path);
            }
        }
    }

    private static void tables(List<String> lines) {
        List<String> rows = new ArrayList<>();
        for (String line : lines) {
            if (line.startsWith("| `")) {
                rows.add(line);
            }
        }
        int calls = 0;
        for (Method method : FriendBackup.class.getDeclaredMethods()) {
            if (Modifier.isPublic(method.getModifiers())) {
                call(rows, method);
                calls++;
            }
        }
        Check.due("rows of calls", rows.size(), calls);
    }

    private static void call(List<String> rows, Method method) {
        int found = 0;
        for (String row : rows) {
            if (row.startsWith("| `" + method.getName() + "(")) {
                String[] cells = row.split("\\|");
                found++;
                Check.due(row + " has cells, of them", cells.length, 5);
                Check.due(row + " has parameters, of them", cells[1].split(",").length, method.getParameterCount());
                Check.due(row + " answers something", !cells[3].isBlank(), method.getReturnType() != void.class);
                Check.same(row + " throws", thrown(cells[4]), List.of(method.getExceptionTypes()));
            }
        }
        Check.due("rows of " + method.getName(), found, 1);
    }

    /** A cell tells A, S or both, each with its reasons behind a colon and up to a semicolon. */
    private static List<Class<?>> thrown(String cell) {
        List<Class<?>> classes = new ArrayList<>();
        for (String part : cell.split(";")) {
            String letter = part.split(":")[0].strip();
            if (letter.equals("A")) {
                classes.add(IllegalArgumentException.class);
            } else if (!letter.isEmpty()) {
                classes.add(letter.equals("S") ? IllegalStateException.class : Void.class);
            }
        }
        return classes;
    }
}
