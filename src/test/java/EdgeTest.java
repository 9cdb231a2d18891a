import java.io.IOException;
import java.nio.file.Files;
import java.nio.file.Path;
import java.util.HashSet;
import java.util.List;
import java.util.Set;

/** Each sentence of the document that names a boundary case has a test of its own, and holds. */
public final class EdgeTest {
    private static final int PROMISES = 32;

    public static void main(String[] args) throws IOException {
        String document = oneLine(Files.readString(Path.of("../shared/DOC.md")));
        Set<String> places = new HashSet<>();
        Set<String> seen = new HashSet<>();
        List<Edge> all = Edge.all();
        for (int i = 0; i < all.size(); i++) {
            Edge edge = all.get(i);
            places.add(edge.place);
            Due.is("[" + edge.words + "] stands in " + edge.place + " as it does in the document",
                    part(document, edge.place).contains(oneLine(edge.words)) ? 1 : 0, 1);
            Due.is(edge.place + ", [" + edge.words + "] stands once", seen.add(edge.place + edge.words) ? 1 : 0, 1);
            int wrong = wrongOf(i);
            Due.is("wrong answers of " + edge.place + ", [" + edge.words + "]", wrong, 0);
        }
        for (int promise = 1; promise <= PROMISES; promise++) {
            Due.is("promise " + promise + " has a test", places.contains("Promise " + promise) ? 1 : 0, 1);
        }
        System.out.println(all.size() + " sentences");
        Due.end("EdgeTest");
    }

    /** How many answers of a sentence's test are not as due; a call that ends in an exception is one. */
    public static int wrongOf(int edge) {
        int before = Due.wrong();
        int asked = Due.asked();
        try {
            Edge.all().get(edge).test.run();
        } catch (RuntimeException e) {
            Due.is("an exception, " + e, 1, 0);
        }
        Due.is("something was asked", Due.asked() > asked ? 1 : 0, 1);
        return Due.wrong() - before;
    }

    public static int quietlyWrongOf(int edge) {
        Due.mute();
        return wrongOf(edge);
    }

    private static String oneLine(String text) {
        return text.replaceAll("\\s+", " ");
    }

    /** The part of the document that a place names. */
    private static String part(String document, String place) {
        String[] marks = place.startsWith("Terms ") ? new String[] {"==== " + place.substring(6) + " ", "==== "}
                : place.startsWith("Promise ") ? new String[] {"## " + place + ": ", "## "}
                : new String[] {"## " + place + " ", "## "};
        int from = document.indexOf(marks[0]);
        if (from < 0) {
            return "";
        }
        int behind = from + marks[0].length();
        int to = document.indexOf(marks[1], behind);
        return document.substring(behind, to < 0 ? document.length() : to);
    }
}
