import java.io.IOException;
import java.io.StringWriter;
import java.lang.reflect.Method;
import java.lang.reflect.Modifier;
import java.net.URL;
import java.net.URLClassLoader;
import java.nio.file.Files;
import java.nio.file.Path;
import java.util.ArrayList;
import java.util.List;
import java.util.regex.Matcher;
import java.util.regex.Pattern;
import javax.tools.JavaCompiler;
import javax.tools.StandardJavaFileManager;
import javax.tools.ToolProvider;

/** What README.md shows is Java, answers what it says there, and leaves no call and no test out. */
public final class ReadmeTest {
    /** A line of an example: a call, and behind it the answer that is due. */
    private static final Pattern SHOWN = Pattern.compile("(?m)^ *(x\\.\\w+\\(.*\\)); +// (-?\\d+|NO)\\b.*$");

    public static void main(String[] args) throws IOException, ReflectiveOperationException {
        String readme = Files.readString(Path.of("README.md"));
        Matcher blocks = Pattern.compile("(?s)```java\n(.*?)```").matcher(readme);
        StringBuilder shown = new StringBuilder();
        while (blocks.find()) {
            shown.append(blocks.group(1));
        }
        runs(shown.toString());
        namesAllCalls(shown.toString());
        namesAllTests(readme);
        Due.end("ReadmeTest");
    }

    /** The examples are one run: what one block made, the next one uses. */
    private static void runs(String shown) throws IOException, ReflectiveOperationException {
        Matcher lines = SHOWN.matcher(shown);
        String asked = lines.replaceAll("told.add(new Object[] {\"$1\", (long) $1, due(\"$2\")});");
        Path folder = Files.createTempDirectory("readme");
        Path source = folder.resolve("Readme.java");
        try {
            Files.writeString(source, "import java.util.List;\n"
                    + "public final class Readme {\n"
                    + "static long due(String s) { return s.equals(\"NO\") ? RailCargo.NO : Long.parseLong(s); }\n"
                    + "public static void run(List<Object[]> told) {\n" + asked + "}\n}\n");
            if (compiles(source, folder)) {
                compare(folder, shown.lines().filter(line -> line.contains("//")).count());
            }
        } finally {
            Files.deleteIfExists(source);
            Files.deleteIfExists(folder.resolve("Readme.class"));
            Files.delete(folder);
        }
    }

    private static void compare(Path folder, long answers) throws IOException, ReflectiveOperationException {
        List<Object[]> told = new ArrayList<>();
        try (URLClassLoader loader = new URLClassLoader(new URL[] {folder.toUri().toURL()})) {
            loader.loadClass("Readme").getMethod("run", List.class).invoke(null, told);
        }
        Due.is("answers that README.md tells and that are asked", told.size(), answers);
        for (Object[] line : told) {
            Due.is("README.md: " + line[0], (Long) line[1], (Long) line[2]);
        }
    }

    private static boolean compiles(Path source, Path folder) throws IOException {
        JavaCompiler compiler = ToolProvider.getSystemJavaCompiler();
        StringWriter told = new StringWriter();
        boolean fine;
        try (StandardJavaFileManager files = compiler.getStandardFileManager(null, null, null)) {
            List<String> options = List.of("-proc:none", "-d", folder.toString(), "-cp",
                    System.getProperty("java.class.path"));
            fine = compiler.getTask(told, files, null, options, null, files.getJavaFileObjects(source)).call();
        }
        Due.is("what README.md shows is Java " + told, fine ? 1 : 0, 1);
        return fine;
    }

    private static void namesAllCalls(String shown) {
        for (Method call : RailCargo.class.getDeclaredMethods()) {
            if (Modifier.isPublic(call.getModifiers())) {
                Due.is("README.md shows " + call.getName(), shown.contains("x." + call.getName() + "(") ? 1 : 0, 1);
            }
        }
    }

    private static void namesAllTests(String readme) throws IOException {
        try (var files = Files.newDirectoryStream(Path.of("src/test/java"), "*Test.java")) {
            for (Path file : files) {
                String name = file.getFileName().toString().replace(".java", "");
                Due.is("README.md names " + name, readme.contains("`" + name + "`") ? 1 : 0, 1);
            }
        }
    }
}
