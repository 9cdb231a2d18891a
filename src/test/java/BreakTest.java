import java.io.ByteArrayOutputStream;
import java.io.IOException;
import java.io.InputStream;
import java.io.OutputStream;
import java.io.Writer;
import java.net.URI;
import java.nio.file.Files;
import java.nio.file.Path;
import java.util.ArrayList;
import java.util.HashMap;
import java.util.List;
import java.util.Map;
import java.util.concurrent.ConcurrentHashMap;
import java.util.regex.Matcher;
import java.util.regex.Pattern;
import java.util.stream.Collectors;
import java.util.stream.IntStream;
import java.util.stream.Stream;
import javax.tools.FileObject;
import javax.tools.ForwardingJavaFileManager;
import javax.tools.JavaCompiler;
import javax.tools.JavaFileManager;
import javax.tools.JavaFileObject;
import javax.tools.SimpleJavaFileObject;
import javax.tools.ToolProvider;

/** Breaks each sentence of Edge.all() in the class, in each of its ways: the sentence's own test has to see it. */
public final class BreakTest {
    private static final int NO_JAVA = -1, NO_PLACE = -2;
    private static final Map<String, byte[]> TESTS = new ConcurrentHashMap<>();

    public static void main(String[] args) throws IOException {
        String source = Files.readString(Path.of("src/main/java/RailCargo.java"));
        List<Edge> all = Edge.all();
        Due.is("wrong answers of the class as it stands", wrongOf(source, 0), 0);
        List<String> missed = IntStream.range(0, all.size()).boxed().parallel()
                .flatMap(number -> missed(source, all.get(number), number)).collect(Collectors.toList());
        for (String one : missed) {
            Due.is(one, 0, 1);
        }
        int breaks = 0;
        for (Edge edge : all) {
            Due.is("[" + edge.words + "] has a way to be broken", edge.breaks.isEmpty() ? 0 : 1, 1);
            breaks += edge.breaks.size();
        }
        System.out.println(breaks + " ways to break the class");
        Due.end("BreakTest");
    }

    /** The ways to break a sentence that its test does not see, or that can't be tried. */
    private static Stream<String> missed(String source, Edge edge, int number) {
        List<String> missed = new ArrayList<>();
        for (String[] way : edge.breaks) {
            String broken = broken(source, way[0], way[1]);
            int wrong = broken == null ? NO_PLACE : wrongOf(broken, number);
            if (wrong <= 0) {
                String why = wrong == NO_PLACE ? "stands not just once"
                        : wrong == NO_JAVA ? "is no Java" : "isn't seen";
                missed.add(edge.place + ", [" + edge.words + "]: [" + way[0] + "] as [" + way[1] + "] " + why);
            }
        }
        return missed.stream();
    }

    /** The source with other signs in the one place where these stand, however they are spaced; or null. */
    private static String broken(String source, String from, String to) {
        StringBuilder pattern = new StringBuilder();
        for (String piece : from.split(" ")) {
            pattern.append(pattern.length() == 0 ? "" : "\\s+").append(Pattern.quote(piece));
        }
        Matcher found = Pattern.compile(pattern.toString()).matcher(source);
        if (!found.find()) {
            return null;
        }
        String broken = source.substring(0, found.start()) + to + source.substring(found.end());
        return found.find() ? null : broken;
    }

    /** How many answers of a sentence's test are wrong with this source. */
    private static int wrongOf(String source, int edge) {
        Map<String, byte[]> classes = compiled(source);
        if (classes == null) {
            return NO_JAVA;
        }
        try {
            Class<?> test = new Loader(classes).loadClass("EdgeTest");
            return (Integer) test.getMethod("quietlyWrongOf", int.class).invoke(null, edge);
        } catch (ReflectiveOperationException e) {
            throw new IllegalStateException(e);
        }
    }

    private static Map<String, byte[]> compiled(String source) {
        JavaCompiler compiler = ToolProvider.getSystemJavaCompiler();
        JavaFileObject file = new Source(source);
        Written written = new Written(compiler.getStandardFileManager(null, null, null));
        boolean fine = compiler.getTask(Writer.nullWriter(), written, null, List.of("-proc:none"), null,
                List.of(file)).call();
        return fine ? written.classes() : null;
    }

    /** A source that stands in no file. */
    private static final class Source extends SimpleJavaFileObject {
        private final String source;

        Source(String source) {
            super(URI.create("string:///RailCargo.java"), Kind.SOURCE);
            this.source = source;
        }

        @Override
        public CharSequence getCharContent(boolean ignoreErrors) {
            return source;
        }
    }

    /** Keeps what the compiler writes. */
    private static final class Written extends ForwardingJavaFileManager<JavaFileManager> {
        private final Map<String, ByteArrayOutputStream> streams = new HashMap<>();

        Written(JavaFileManager under) {
            super(under);
        }

        @Override
        public JavaFileObject getJavaFileForOutput(Location where, String name, JavaFileObject.Kind kind,
                FileObject from) {
            return new SimpleJavaFileObject(URI.create("bytes:///" + name + ".class"), kind) {
                @Override
                public OutputStream openOutputStream() {
                    ByteArrayOutputStream stream = new ByteArrayOutputStream();
                    streams.put(name, stream);
                    return stream;
                }
            };
        }

        Map<String, byte[]> classes() {
            Map<String, byte[]> classes = new HashMap<>();
            streams.forEach((name, stream) -> classes.put(name, stream.toByteArray()));
            return classes;
        }
    }

    /** Loads the broken class, and with it the tests anew. */
    private static final class Loader extends ClassLoader {
        private final Map<String, byte[]> classes;

        Loader(Map<String, byte[]> classes) {
            super(ClassLoader.getPlatformClassLoader());
            this.classes = classes;
        }

        @Override
        protected Class<?> findClass(String name) throws ClassNotFoundException {
            byte[] bytes = classes.containsKey(name) ? classes.get(name) : TESTS.computeIfAbsent(name, Loader::read);
            return defineClass(name, bytes, 0, bytes.length);
        }

        private static byte[] read(String name) {
            try (InputStream stream = ClassLoader.getSystemResourceAsStream(name + ".class")) {
                return stream.readAllBytes();
            } catch (IOException e) {
                throw new IllegalStateException(e);
            }
        }
    }
}
