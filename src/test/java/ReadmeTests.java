import java.io.IOException;
import java.lang.reflect.Method;
import java.lang.reflect.Modifier;
import java.net.URI;
import java.net.URL;
import java.net.URLClassLoader;
import java.nio.file.Files;
import java.nio.file.Path;
import java.util.ArrayList;
import java.util.Comparator;
import java.util.List;
import java.util.Set;
import java.util.TreeSet;
import java.util.regex.Matcher;
import java.util.regex.Pattern;
import java.util.stream.Stream;
import javax.tools.ToolProvider;

/**
 * What README.md says of calls and answers is so: its Java is compiled and run, each call with the
 * answer that stands behind it, and its table has each call of the class with its parameters' types.
 */
public final class ReadmeTests {
    static final Pattern BLOCK = Pattern.compile("```java\n(.*?)```", Pattern.DOTALL);
    static final Pattern ANSWERED = Pattern.compile("(?:(?:int|long|boolean) (\\w+) = )?(\\w+\\..*\\)); +// (-?\\w+).*");
    static final Pattern ROW = Pattern.compile("\\| `(\\w+)\\((.*?)\\)` \\|.*");
    static int wrong;
    static int checks;

    public static void main(String[] args) throws Exception {
        String readme = Files.readString(Path.of("README.md"));
        runExamples(readme);
        table(readme);
        tests(readme);
        System.out.println(checks + " checks, " + wrong + " wrong");
        if (wrong != 0 || checks < 55) System.exit(1);
    }

    /** Called by the examples. */
    public static void is(String line, Object got, String want) {
        checks++;
        if (want.equals(String.valueOf(got))) return;
        wrong++;
        System.out.println("README.md: " + line + " answered " + got);
    }

    static void runExamples(String readme) throws Exception {
        Path out = Files.createTempDirectory("readme");
        try {
            Path source = out.resolve("Examples.java");
            Files.writeString(source, examples(readme));
            String path = System.getProperty("java.class.path");
            int failed = ToolProvider.getSystemJavaCompiler().run(null, null, null, "-nowarn", "-cp", path, "-d", out.toString(), source.toString());
            if (failed != 0) {
                is("the examples don't compile", failed, "0");
                return;
            }
            URI place = out.toUri();
            try (URLClassLoader loader = new URLClassLoader(new URL[] {place.toURL()}, ReadmeTests.class.getClassLoader())) {
                loader.loadClass("Examples").getMethod("main", String[].class).invoke(null, (Object) new String[0]);
            }
        } finally {
            remove(out);
        }
    }

    /** Blocks that begin with "static" are methods, all others stand in main, one behind the other. */
    static String examples(String readme) {
        StringBuilder methods = new StringBuilder();
        StringBuilder main = new StringBuilder();
        Matcher block = BLOCK.matcher(readme);
        while (block.find()) {
            if (block.group(1).startsWith("static")) {
                methods.append(block.group(1));
                continue;
            }
            for (String line : block.group(1).split("\n")) main.append(checked(line)).append("\n");
        }
        return "public final class Examples {\n" + methods + "public static void main(String[] args) {\n" + main + "}\n}\n";
    }

    static String checked(String line) {
        Matcher m = ANSWERED.matcher(line);
        if (!m.matches()) {
            if (line.contains("//")) is("no answer stands behind " + line, "", "-");
            return line;
        }
        String told = "\"" + line.replace("\\", "\\\\").replace("\"", "\\\"") + "\"";
        String name = m.group(1);
        String call = name == null ? "" : line.substring(0, line.indexOf("//"));
        return call + "ReadmeTests.is(" + told + ", " + (name == null ? m.group(2) : name) + ", \"" + m.group(3) + "\");";
    }

    static void table(String readme) {
        Set<String> told = new TreeSet<>();
        for (String line : readme.split("\n")) {
            Matcher row = ROW.matcher(line);
            if (row.matches()) told.add(row.group(1) + "(" + row.group(2).replaceAll(" \\w+(,|$)", "$1") + ")");
        }
        Set<String> face = new TreeSet<>(Set.of("PupilCoin()"));
        for (Method m : PupilCoin.class.getDeclaredMethods()) {
            if (!Modifier.isPublic(m.getModifiers())) continue;
            List<String> types = new ArrayList<>();
            for (Class<?> c : m.getParameterTypes()) types.add(c.toString());
            face.add(m.getName() + "(" + String.join(", ", types) + ")");
        }
        is("the table of calls", told, face.toString());
    }

    /** Each test stands in the list. */
    static void tests(String readme) throws IOException {
        try (Stream<Path> files = Files.list(Path.of("src/test/java"))) {
            for (Path file : (Iterable<Path>) files::iterator) is(file + " in the list", readme.contains(file.getFileName().toString()), "true");
        }
    }

    static void remove(Path folder) throws IOException {
        try (Stream<Path> files = Files.walk(folder)) {
            for (Path file : (Iterable<Path>) files.sorted(Comparator.reverseOrder())::iterator) Files.delete(file);
        }
    }
}
