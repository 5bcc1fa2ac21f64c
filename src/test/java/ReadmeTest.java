import java.io.ByteArrayOutputStream;
import java.io.IOException;
import java.io.PrintStream;
import java.lang.reflect.Field;
import java.lang.reflect.Method;
import java.lang.reflect.Modifier;
import java.net.URL;
import java.net.URLClassLoader;
import java.nio.file.Files;
import java.nio.file.Path;
import java.util.ArrayList;
import java.util.List;
import java.util.regex.Matcher;
import java.util.regex.Pattern;
import java.util.stream.Stream;
import javax.tools.ToolProvider;

/** README.md tells the whole class, and its example prints what its comments say. */
public final class ReadmeTest {
    private static int wrong = 0;

    private static void must(boolean holds, String what) {
        if (!holds) {
            wrong++;
            System.out.println("not so: " + what);
        }
    }

    public static void main(String[] args) throws Exception {
        String readme = Files.readString(Path.of("README.md"));
        toldCalls(readme);
        toldConstants(readme);
        toldTests(readme);
        example(readme);
        System.out.println(wrong == 0 ? "README.md holds" : wrong + " things are not as README.md says");
        if (wrong != 0) {
            System.exit(1);
        }
    }

    /** Every call has a row of its own, with as many arguments as it takes, and no other call has one. */
    private static void toldCalls(String readme) {
        List<String> rows = new ArrayList<>();
        Matcher row = Pattern.compile("(?m)^\\| `(\\w+)\\(([^)]*)\\)` \\|").matcher(readme);
        while (row.find()) {
            int arguments = row.group(2).isEmpty() ? 0 : row.group(2).split(",").length;
            rows.add(row.group(1) + "/" + arguments);
        }
        for (Method m : DagTiler.class.getDeclaredMethods()) {
            if (Modifier.isPublic(m.getModifiers())) {
                String call = m.getName() + "/" + m.getParameterCount();
                must(rows.remove(call), "a row tells " + call);
            }
        }
        must(rows.isEmpty(), "each row is that of one call, left over are " + rows);
    }

    private static void toldConstants(String readme) throws IllegalAccessException {
        for (Field f : DagTiler.class.getFields()) {
            String told = "`" + f.getName() + "` (" + f.getInt(null) + ")";
            must(readme.contains(told), "it tells " + told);
        }
    }

    private static void toldTests(String readme) throws IOException {
        try (Stream<Path> tests = Files.list(Path.of("src/test/java"))) {
            tests.map(test -> test.getFileName().toString().replace(".java", ""))
                    .forEach(name -> must(readme.contains("\n- `" + name + "`: "), "it tells of " + name));
        }
    }

    private static void example(String readme) throws Exception {
        Matcher block = Pattern.compile("(?s)```java\n(.*?)```").matcher(readme);
        must(block.find(), "there is an example");
        if (wrong != 0) {
            return;
        }
        String source = block.group(1);
        List<String> promised = new ArrayList<>();
        Matcher line = Pattern.compile("println\\(.*\\); *// (-?\\d+)\\b").matcher(source);
        while (line.find()) {
            promised.add(line.group(1));
        }
        must(!promised.isEmpty(), "the example says what it prints");
        List<String> printed = printedBy(source);
        must(printed.equals(promised), "the example prints " + promised + ", seen is " + printed);
    }

    private static List<String> printedBy(String source) throws Exception {
        Path folder = Files.createTempDirectory("readme");
        Path file = folder.resolve("Example.java");
        Path made = folder.resolve("Example.class");
        try {
            Files.writeString(file, source);
            int refused = ToolProvider.getSystemJavaCompiler().run(null, null, null, "--release", "17",
                    "-cp", System.getProperty("java.class.path"), "-d", folder.toString(), file.toString());
            must(refused == 0, "the example compiles");
            return refused == 0 ? outputOfExample(folder) : List.of();
        } finally {
            Files.deleteIfExists(file);
            Files.deleteIfExists(made);
            Files.delete(folder);
        }
    }

    private static List<String> outputOfExample(Path folder) throws Exception {
        PrintStream screen = System.out;
        ByteArrayOutputStream caught = new ByteArrayOutputStream();
        try (URLClassLoader loader = new URLClassLoader(new URL[] {folder.toUri().toURL()})) {
            Method start = loader.loadClass("Example").getMethod("main", String[].class);
            System.setOut(new PrintStream(caught, true));
            start.invoke(null, (Object) new String[0]);
        } finally {
            System.setOut(screen);
        }
        return caught.toString().lines().toList();
    }
}
