import java.io.IOException;
import java.nio.file.Files;
import java.nio.file.Path;
import java.util.ArrayList;
import java.util.LinkedHashMap;
import java.util.List;
import java.util.Map;

/** Whether each word of the document's terms and promises stands in a test's title, or is said to name no edge. */
public final class SentencesTest {
    private static final Check CHECK = new Check("SentencesTest");

    public static void main(String[] args) throws IOException {
        Map<String, String> places = places(Files.readAllLines(Path.of("../shared/DOC.md")));
        Map<String, boolean[]> said = new LinkedHashMap<>();
        for (Map.Entry<String, String> place : places.entrySet()) {
            said.put(place.getKey(), new boolean[place.getValue().length()]);
        }
        for (Edges.Edge edge : edges()) {
            mark(edge, places.get(edge.place()), said.get(edge.place()));
        }
        int promises = 0;
        for (Map.Entry<String, String> place : places.entrySet()) {
            promises += place.getKey().startsWith("promise ") ? 1 : 0;
            tellTheUnsaid(place.getKey(), place.getValue(), said.get(place.getKey()));
        }
        CHECK.due("promises", promises, 40);
        CHECK.end();
    }

    private static List<Edges.Edge> edges() {
        Edges edges = new Edges();
        EdgesOfTermsTest.list(edges);
        EdgesOfExchangesTest.list(edges);
        EdgesOfTextsTest.list(edges);
        EdgesOfCallsTest.list(edges);
        EdgesOfAnswersTest.list(edges);
        EdgesOfRatesTest.list(edges);
        LongRunsTest.list(edges);
        return edges.all;
    }

    /** The document's places with their words; names of arguments, calls and constants (in backquotes) left out. */
    private static Map<String, String> places(List<String> lines) {
        Map<String, StringBuilder> texts = new LinkedHashMap<>();
        String place = "";
        for (String line : lines) {
            String before = place;
            if (line.startsWith("## ")) {
                place = line.equals("## Terms") ? "term 0" : line.equals("## What it is") ? "what"
                    : line.startsWith("## Promise ") ? "promise " + line.substring(11, line.indexOf(':')) : "";
            } else if (place.startsWith("term") && line.matches("[1-7]\\. [A-Z].*")) {
                place = "term " + line.charAt(0);
            }
            if (place.equals(before) && !place.isEmpty() && !line.startsWith("```")) {
                texts.computeIfAbsent(place, p -> new StringBuilder()).append(line).append(' ');
            }
        }
        Map<String, String> places = new LinkedHashMap<>();
        for (Map.Entry<String, StringBuilder> text : texts.entrySet()) {
            places.put(text.getKey(), plain(text.getValue().toString()));
        }
        return places;
    }

    private static String plain(String text) {
        return text.replaceAll("`[^`]*`", " ").replaceAll("\\s+", " ").trim();
    }

    private static void mark(Edges.Edge edge, String text, boolean[] said) {
        String words = plain(edge.words()).replaceFirst("^[:,] ", "");
        int found = 0;
        for (int at = text == null ? -1 : text.indexOf(words); at >= 0; at = text.indexOf(words, at + 1)) {
            found++;
            for (int i = at; i < at + words.length(); i++) {
                said[i] = true;
            }
        }
        CHECK.that("\"" + words + "\" does not stand in " + edge.place(), found > 0);
    }

    private static void tellTheUnsaid(String place, String text, boolean[] said) {
        List<String> unsaid = new ArrayList<>();
        StringBuilder words = new StringBuilder();
        for (int i = 0; i <= text.length(); i++) {
            if (i < text.length() && !said[i]) {
                words.append(text.charAt(i));
            } else {
                if (words.toString().matches("(?s).*[a-zA-Z0-9].*")) {
                    unsaid.add(words.toString().trim());
                }
                words.setLength(0);
            }
        }
        CHECK.that("of " + place + " no test says " + unsaid, unsaid.isEmpty());
    }
}
