import java.util.ArrayList;
import java.util.List;

/** Words of the document that name a boundary case, a test of their own, and ways to break them in the class. */
final class Edge {
    final String place;
    final String words;
    final Runnable test;
    final List<String[]> breaks = new ArrayList<>();

    /** The place is as the document has it: "Terms 1", or "Promise 7". */
    Edge(String place, String words, Runnable test) {
        this.place = place;
        this.words = words;
        this.test = test;
    }

    /** If these signs of the class were those, the words would not hold: BreakTest looks whether the test sees it. */
    Edge broken(String from, String to) {
        breaks.add(new String[] {from, to});
        return this;
    }

    /** All of them, those of the terms ahead of those of the promises. */
    static List<Edge> all() {
        List<Edge> all = new ArrayList<>();
        EdgesOfTerms.addTo(all);
        EdgesOfTexts.addTo(all);
        EdgesOfOwing.addTo(all);
        EdgesOfCalls.addTo(all);
        EdgesOfHost.addTo(all);
        return all;
    }
}
