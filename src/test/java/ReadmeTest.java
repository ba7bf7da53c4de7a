import java.io.IOException;
import java.lang.reflect.Method;
import java.lang.reflect.Modifier;
import java.net.URL;
import java.net.URLClassLoader;
import java.nio.file.DirectoryStream;
import java.nio.file.Files;
import java.nio.file.Path;
import java.util.regex.Matcher;
import java.util.regex.Pattern;
import javax.tools.ToolProvider;

/** README.md is as things stand: its example answers what it tells, and nothing is left out. */
public final class ReadmeTest {
    private static final Path README = Path.of("README.md");
    private static final Path TESTS = Path.of("src/test/java");
    private static final Pattern EXAMPLE = Pattern.compile("```java\n(.*?)```", Pattern.DOTALL);
    private static final Pattern TOLD =
        Pattern.compile("(?m)^(?:int|long) (\\w+) = .*; *// (-?\\d+)\\b.*$");
    private static final Pattern CALL_IN_TABLE = Pattern.compile("(?m)^\\| `(\\w+)\\(([^)]*)\\)` \\|");

    public static void main(String[] args) throws Exception {
        String text = Files.readString(README);
        example(text);
        calls(text);
        tests(text);
        Check.end("ReadmeTest");
    }

    private static void example(String text) throws Exception {
        Check.sentence("the example");
        Matcher block = EXAMPLE.matcher(text);
        Check.holds("there is one", block.find());
        String example = block.group(1);
        Matcher told = TOLD.matcher(example);
        StringBuilder names = new StringBuilder();
        StringBuilder values = new StringBuilder();
        while (told.find()) {
            names.append(names.length() > 0 ? " " : "").append(told.group(1));
            values.append(values.length() > 0 ? " " : "").append(told.group(2));
        }
        String[] name = names.toString().split(" ");
        String[] due = values.toString().split(" ");
        long[] got = answers(example, name);
        Check.holds("it tells answers", name.length > 20);
        for (int i = 0; i < name.length; i++) {
            Check.due(name[i], Long.parseLong(due[i]), got[i]);
        }
    }

    /** Compiles the example as it stands, and gives what its variables have at its end. */
    private static long[] answers(String example, String[] names) throws Exception {
        Path directory = Files.createTempDirectory("readme");
        Path source = directory.resolve("Example.java");
        try {
            Files.writeString(source, "public final class Example {\npublic static long[] answers() {\n"
                + example + "return new long[] {" + String.join(", ", names) + "};\n}\n}\n");
            int failed = ToolProvider.getSystemJavaCompiler().run(null, null, null, "-cp",
                System.getProperty("java.class.path"), "-d", directory.toString(), source.toString());
            Check.due("compiler", 0, failed);
            URL[] where = {directory.toUri().toURL()};
            try (URLClassLoader loader = new URLClassLoader(where)) {
                Method method = loader.loadClass("Example").getMethod("answers");
                return (long[]) method.invoke(null);
            }
        } finally {
            Files.deleteIfExists(directory.resolve("Example.class"));
            Files.deleteIfExists(source);
            Files.deleteIfExists(directory);
        }
    }

    private static void calls(String text) {
        Check.sentence("the table of calls");
        int found = 0;
        Matcher row = CALL_IN_TABLE.matcher(text);
        while (row.find()) {
            int parameters = row.group(2).isEmpty() ? 0 : row.group(2).split(",").length;
            Check.holds(row.group(1) + " with " + parameters + " is of the face",
                isOfFace(row.group(1), parameters));
            found++;
        }
        int all = 0;
        for (Method method : PlanCabinet.class.getDeclaredMethods()) {
            all += Modifier.isPublic(method.getModifiers()) ? 1 : 0;
        }
        Check.due("calls", all, found);
    }

    private static boolean isOfFace(String name, int parameters) {
        for (Method method : PlanCabinet.class.getDeclaredMethods()) {
            if (Modifier.isPublic(method.getModifiers()) && method.getName().equals(name)
                && method.getParameterCount() == parameters) {
                return true;
            }
        }
        return false;
    }

    private static void tests(String text) throws IOException {
        Check.sentence("the table of tests");
        int all = 0;
        try (DirectoryStream<Path> files = Files.newDirectoryStream(TESTS, "*Test.java")) {
            for (Path file : files) {
                String name = file.getFileName().toString().replace(".java", "");
                Check.holds(name + " is named", text.contains("\n| `" + name + "` |"));
                all++;
            }
        }
        Check.due("tests", all, text.split("\n\\| `\\w+Test` \\|", -1).length - 1);
        Check.holds(".ci/run is there", text.contains(".ci/run") && Files.isExecutable(Path.of(".ci/run")));
    }
}
