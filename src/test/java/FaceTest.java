import java.io.IOException;
import java.lang.reflect.Constructor;
import java.lang.reflect.Field;
import java.lang.reflect.Method;
import java.lang.reflect.Modifier;
import java.nio.file.Files;
import java.nio.file.Path;
import java.util.Set;
import java.util.TreeSet;
import java.util.regex.Matcher;
import java.util.regex.Pattern;

/** The face is the document's and no more, and the source keeps to what of LANGUAGE.md can be seen by a test. */
public final class FaceTest {
    private static final String FACE = """
            int cargo(int,int) int hour(int,int,int) int sale(int,int,int,int,int) int paper(int,int)
            int pay(int,int) int told(int,int) int whose(int,int,int,int) long falls(int,int,int,int)
            int between(int,int,int,int) int feed(int,long) int text() int force(int) long owes(int,int)
            long balance(int,int) int closes(int) long differ(int,int) int found(int) long loses(int,int)
            int stops(int,int) int two(int,int,int) int hangs(int,int,int) long moves(int,int,int)
            int telegraph(int,int) int image() int back() int count(int) int sheet(int,int,int)
            int cell(int,int,int) int copy(int,int,int,int,int) int sales(int,int,int,int) int taken(int,int)
            """;
    private static final String CONSTANTS = "int NONE int BAD int STATE int FULL long NO";
    private static final String[] NOT_THERE = {"throw", "throws", "try", "catch", "synchronized", "assert", "native",
        "volatile", "transient", "protected", "double", "float", "var", "package", "Object", "Exception"};

    public static void main(String[] args) throws IOException {
        methods();
        constants();
        constructors();
        classesInside();
        source(Files.readString(Path.of("src/main/java/RailCargo.java")));
        Due.end("FaceTest");
    }

    private static Set<String> wanted(String list) {
        Set<String> set = new TreeSet<>();
        Matcher m = Pattern.compile("(int|long) (\\S+)").matcher(list);
        while (m.find()) {
            set.add(m.group());
        }
        return set;
    }

    private static void methods() {
        Set<String> seen = new TreeSet<>();
        Set<String> names = new TreeSet<>();
        for (Method m : RailCargo.class.getDeclaredMethods()) {
            if (Modifier.isPrivate(m.getModifiers())) {
                continue;
            }
            StringBuilder params = new StringBuilder();
            for (Class<?> p : m.getParameterTypes()) {
                params.append(params.length() == 0 ? "" : ",").append(p.getName());
            }
            seen.add(m.getReturnType().getName() + " " + m.getName() + "(" + params + ")");
            names.add(m.getName());
            Due.is(m.getName() + " is public, not static", m.getModifiers(), Modifier.PUBLIC);
        }
        Due.is("the methods " + seen, seen.equals(wanted(FACE)) ? 1 : 0, 1);
        Due.is("31 methods", seen.size(), 31);
        namesOfPrivateOnes(RailCargo.class, names);
        for (Class<?> inside : RailCargo.class.getDeclaredClasses()) {
            namesOfPrivateOnes(inside, names);
        }
    }

    private static void namesOfPrivateOnes(Class<?> c, Set<String> taken) {
        for (Method m : c.getDeclaredMethods()) {
            boolean face = c == RailCargo.class && !Modifier.isPrivate(m.getModifiers());
            Due.is(m.getName() + " is no name of the face", !face && taken.contains(m.getName()) ? 1 : 0, 0);
            Due.is(m.getName() + " takes seven at most", m.getParameterCount() <= 7 ? 1 : 0, 1);
        }
    }

    private static void constants() {
        Set<String> seen = new TreeSet<>();
        int fields = 0;
        for (Field f : RailCargo.class.getDeclaredFields()) {
            if (!Modifier.isPrivate(f.getModifiers())) {
                seen.add(f.getType().getName() + " " + f.getName());
                Due.is(f.getName(), f.getModifiers(), Modifier.PUBLIC | Modifier.STATIC | Modifier.FINAL);
            }
            fields += Modifier.isStatic(f.getModifiers()) ? 0 : 1;
        }
        Due.is("the constants " + seen, seen.equals(wanted(CONSTANTS)) ? 1 : 0, 1);
        Due.is("some twenty fields", fields <= 20 ? 1 : 0, 1);
        Due.is("NONE", RailCargo.NONE, -1);
        Due.is("BAD", RailCargo.BAD, -2);
        Due.is("STATE", RailCargo.STATE, -3);
        Due.is("FULL", RailCargo.FULL, -4);
        Due.is("NO", RailCargo.NO, -4611686018427387904L);
    }

    private static void constructors() {
        Constructor<?>[] made = RailCargo.class.getDeclaredConstructors();
        Due.is("one constructor", made.length, 1);
        Due.is("it is public", made[0].getModifiers(), Modifier.PUBLIC);
        Due.is("of nothing", made[0].getParameterCount(), 0);
        Due.is("the class", RailCargo.class.getModifiers(), Modifier.PUBLIC | Modifier.FINAL);
    }

    private static void classesInside() {
        Class<?>[] inside = RailCargo.class.getDeclaredClasses();
        Due.is("some twelve classes", inside.length < 12 ? 1 : 0, 1);
        for (Class<?> c : inside) {
            Due.is(c + " is static", Modifier.isStatic(c.getModifiers()) ? 1 : 0, 1);
            for (Field f : c.getDeclaredFields()) {
                boolean changing = Modifier.isStatic(f.getModifiers()) && !Modifier.isFinal(f.getModifiers());
                Due.is(f + " is final if static", changing ? 1 : 0, 0);
            }
        }
    }

    private static void source(String whole) {
        boolean plain = whole.chars().allMatch(c -> c == '\n' || c >= 32 && c < 127);
        Due.is("signs 32 .. 126 alone", plain ? 1 : 0, 1);
        String code = whole.replaceAll("(?s)/\\*.*?\\*/", " ").replaceAll("//[^\n]*", " ")
                .replaceAll("\"[^\"\n]*\"", "\"\"").replaceAll("'(\\\\.|[^'\\\\])'", "' '");
        for (String word : NOT_THERE) {
            boolean there = Pattern.compile("\\b" + word + "\\b").matcher(code).find();
            Due.is("no " + word, there ? 1 : 0, 0);
        }
        Due.is("no lambda", code.contains("->") ? 1 : 0, 0);
        Due.is("no method reference", code.contains("::") ? 1 : 0, 0);
        Due.is("no annotation", code.contains("@") ? 1 : 0, 0);
        Due.is("no name that ends in Exact", code.contains("Exact") ? 1 : 0, 0);
        Matcher imports = Pattern.compile("import ([^;]*);").matcher(code);
        while (imports.find()) {
            Due.is("import " + imports.group(1), imports.group(1).equals("java.util.Arrays") ? 1 : 0, 1);
        }
    }
}
