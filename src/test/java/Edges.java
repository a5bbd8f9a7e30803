import java.util.ArrayList;
import java.util.List;

/** Tests that stand each for words of the document, which name an edge; SentencesTest looks whether all words do. */
final class Edges {
    /** What is asked of the words. */
    interface Body {
        void ask(Check check);
    }

    /** Words of one place of the document ("term 3", "promise 9"), and their test; null if they name no edge. */
    record Edge(String place, String words, Body body) {
    }

    final List<Edge> all = new ArrayList<>();
    private String place = "";

    /** All that follows stands there. */
    void at(String newPlace) {
        place = newPlace;
    }

    void says(String words, Body body) {
        all.add(new Edge(place, words, body));
    }

    /** These words of the place name no edge. */
    void plain(String... words) {
        for (String each : words) {
            all.add(new Edge(place, each, null));
        }
    }

    /** Asks them all, each by itself: one that asks nothing is wrong. */
    void run(String test) {
        Check sum = new Check(test);
        for (Edge edge : all) {
            if (edge.body() != null) {
                Check check = new Check(test + ": " + edge.place() + ", \"" + edge.words() + "\"");
                edge.body().ask(check);
                sum.that("nothing is asked of " + edge, check.asked() > 0);
                sum.add(check);
            }
        }
        sum.end();
    }

    /** Numbers just outside of a range, and such as would be in it if their upper bits were lost. */
    static int[] outside(int least, int most) {
        return new int[] {Integer.MIN_VALUE, Integer.MIN_VALUE + 1, Integer.MIN_VALUE + most, least - 65536,
            least - 256,
            least - 10, least - 2, least - 1, most + 1, most + 2, most + 10, most + 256, most + 65536,
            Integer.MAX_VALUE - 1, Integer.MAX_VALUE};
    }
}
