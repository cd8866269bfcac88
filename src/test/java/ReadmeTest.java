import java.io.IOException;
import java.io.UncheckedIOException;
import java.lang.reflect.InvocationTargetException;
import java.net.URL;
import java.net.URLClassLoader;
import java.nio.file.Files;
import java.nio.file.Path;
import java.util.ArrayList;
import java.util.Comparator;
import java.util.List;
import java.util.Set;
import java.util.TreeSet;
import java.util.function.BiConsumer;
import java.util.function.Supplier;
import java.util.regex.Matcher;
import java.util.regex.Pattern;
import java.util.stream.Stream;
import javax.tools.ToolProvider;

/** The example of README.md, run as it stands there: each call answers what its comment tells. */
public final class ReadmeTest {
    private static final Pattern LINE = Pattern.compile("(?:int (\\w+) = )?(x\\.(\\w+)\\(.*\\)); +// ([-\\w]+): .+");
    private static final String CALLS = "box cancel carrier count empty leg load mark minutes of plan share station stop"
            + " train where";
    /** A class of another loader, which sees what is public alone: it is handed the check. */
    private static final String HEAD = "import java.util.function.*; public final class Example {"
            + " public static void run(BiConsumer<String[], Supplier<Object>> due) {\n";

    public static void main(String[] args) throws IOException, ReflectiveOperationException {
        List<String> example = example();
        Check.due("README: the example makes an object first", "LunchMarks x = new LunchMarks();",
                () -> example.isEmpty() ? "nothing" : example.get(0));
        Set<String> called = new TreeSet<>();
        StringBuilder code = new StringBuilder(HEAD);
        for (String line : example) {
            code.append(checked(line, called)).append('\n');
        }
        Check.due("README: the example uses all of the face", CALLS, () -> String.join(" ", called));
        run(code.append("} }\n").toString());
        Check.end();
    }

    private static List<String> example() throws IOException {
        List<String> lines = new ArrayList<>();
        boolean inside = false;
        for (String line : Files.readAllLines(Path.of("README.md"))) {
            if (line.startsWith("```")) {
                inside = line.equals("```java");
            } else if (inside) {
                lines.add(line);
            }
        }
        return lines;
    }

    /** The line as code that compares its answer with its comment. */
    private static String checked(String line, Set<String> called) {
        Matcher m = LINE.matcher(line);
        if (!m.matches()) {
            Check.due("README: only the first line tells no answer: " + line, true,
                    () -> line.startsWith("LunchMarks x = "));
            return line;
        }
        called.add(m.group(3));
        String due = "due.accept(new String[] {\"" + m.group(2) + "\", \"" + m.group(4) + "\"}, () -> ";
        return m.group(1) == null
                ? due + m.group(2) + ");"
                : "int " + m.group(1) + " = " + m.group(2) + "; " + due + m.group(1) + ");";
    }

    private static void run(String code) throws IOException, ReflectiveOperationException {
        Path place = Files.createTempDirectory("readme");
        try {
            Path file = Files.writeString(place.resolve("Example.java"), code);
            int failed = ToolProvider.getSystemJavaCompiler().run(null, null, null,
                    "-cp", System.getProperty("java.class.path"), "-d", place.toString(), file.toString());
            Check.due("README: the example compiles", 0, () -> failed);
            if (failed == 0) {
                call(place);
            }
        } finally {
            remove(place);
        }
    }

    private static void call(Path place) throws IOException, ReflectiveOperationException {
        URL[] places = {place.toUri().toURL()};
        try (URLClassLoader loader = new URLClassLoader(places, ReadmeTest.class.getClassLoader())) {
            BiConsumer<String[], Supplier<Object>> due = (row, answer) -> Check.due("README: " + row[0], row[1], answer::get);
            loader.loadClass("Example").getMethod("run", BiConsumer.class).invoke(null, due);
        } catch (InvocationTargetException e) {
            Check.due("README: the example runs to its end", "it does", e::getCause);
        }
    }

    private static void remove(Path place) throws IOException {
        try (Stream<Path> all = Files.walk(place)) {
            all.sorted(Comparator.reverseOrder()).forEach(ReadmeTest::delete);
        }
    }

    private static void delete(Path file) {
        try {
            Files.delete(file);
        } catch (IOException e) {
            throw new UncheckedIOException(e);
        }
    }
}
