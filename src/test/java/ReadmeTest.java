import java.io.File;
import java.io.IOException;
import java.net.URL;
import java.net.URLClassLoader;
import java.nio.file.Files;
import java.nio.file.Path;
import java.util.ArrayList;
import java.util.List;
import java.util.TreeSet;
import java.util.regex.Matcher;
import java.util.regex.Pattern;
import java.util.spi.ToolProvider;
import java.util.stream.Stream;

/** README.md: the calls of its example answer what it says, and its tests are those there are. */
public final class ReadmeTest {
    /** A line of the example: a variable perhaps, what it is set to, and the answer perhaps. */
    private static final Pattern LINE = Pattern.compile(
            "((?:int|boolean) (\\w+) = )?(.+);(?:\\s*// (?:(-?\\d+|true|false)(?::.*)?|.*))?");
    private static final Pattern TABLE_ROW = Pattern.compile("\\| `(\\w+Test)` \\|.*");
    private static final Expect t = new Expect("ReadmeTest");

    public static void main(String[] args) throws Exception {
        List<String> lines = Files.readAllLines(Path.of("README.md"));
        theExampleGoesThrough(block(lines, "```java"));
        allTestsAreNamed(lines);
        theScriptIsThere(block(lines, "```sh"));
        t.end();
    }

    /** The lines of the first block that begins with this one. */
    private static List<String> block(List<String> lines, String begin) {
        int from = lines.indexOf(begin) + 1;
        List<String> rest = lines.subList(from, lines.size());
        t.is("a block " + begin, from > 0 && rest.contains("```"), true);
        return rest.subList(0, rest.indexOf("```"));
    }

    /** Its classes stand among those of the test, which .ci/run deletes. */
    private static void theExampleGoesThrough(List<String> example) throws Exception {
        String classes = System.getProperty("java.class.path");
        Path dir = Files.createTempDirectory(Path.of(classes.split(File.pathSeparator)[0]), "readme");
        Path source = dir.resolve("ReadmeExample.java");
        Files.write(source, program(example));
        ToolProvider javac = ToolProvider.findFirst("javac").orElseThrow();
        int code = javac.run(System.out, System.err, "-d", dir.toString(), "-cp", classes,
                source.toString());
        t.is("the example compiles: javac", code, 0);
        if (code == 0) {
            runMain(dir);
        }
    }

    /** The example as a program, in which each answer that it tells is compared. */
    private static List<String> program(List<String> example) {
        List<String> program = new ArrayList<>();
        program.add("public final class ReadmeExample {");
        program.add("    public static void main(String[] args) {");
        program.add("        Expect t = new Expect(\"README.md\");");
        int answers = 0;
        for (String line : example) {
            Matcher it = LINE.matcher(line);
            if (!it.matches() || it.group(4) == null) {
                program.add(line);
                continue;
            }
            answers++;
            String due = it.group(4);
            String call = it.group(3);
            if (it.group(1) != null) {
                program.add(it.group(1) + call + ";");
            }
            String got = it.group(1) == null ? call : it.group(2);
            program.add("t.is(\"" + call + "\", " + got + ", " + due + ");");
        }
        t.is("it tells answers", answers > 20, true);
        program.add("        t.end();");
        program.add("    }");
        program.add("}");
        return program;
    }

    private static void runMain(Path dir) throws Exception {
        List<URL> there = new ArrayList<>();
        there.add(dir.toUri().toURL());
        for (String path : System.getProperty("java.class.path").split(File.pathSeparator)) {
            there.add(Path.of(path).toUri().toURL());
        }
        // All by one loader: a class that is not public is open to classes of its own loader alone.
        ClassLoader library = ClassLoader.getPlatformClassLoader();
        try (URLClassLoader loader = new URLClassLoader(there.toArray(new URL[0]), library)) {
            Class<?> example = loader.loadClass("ReadmeExample");
            example.getMethod("main", String[].class).invoke(null, (Object) new String[0]);
        }
    }

    private static void allTestsAreNamed(List<String> lines) throws IOException {
        TreeSet<String> named = new TreeSet<>();
        for (String line : lines) {
            Matcher it = TABLE_ROW.matcher(line);
            if (it.matches()) {
                named.add(it.group(1));
            }
        }
        TreeSet<String> there = new TreeSet<>();
        try (Stream<Path> files = Files.list(Path.of("src/test/java"))) {
            for (Path file : files.toList()) {
                String name = file.getFileName().toString();
                if (name.endsWith("Test.java")) {
                    there.add(name.substring(0, name.length() - ".java".length()));
                }
            }
        }
        t.same("the tests that are named", named.toString(), there.toString());
    }

    private static void theScriptIsThere(List<String> command) {
        t.same("how to run the tests", command.toString(), "[.ci/run]");
        t.is("it can be run", Files.isExecutable(Path.of(".ci/run")), true);
    }
}
