import java.io.IOException;
import java.nio.file.Files;
import java.nio.file.Path;
import java.util.ArrayList;
import java.util.List;
import java.util.Map;
import java.util.TreeMap;

/** Whether the sentences that have tests stand in the document, where the tests say that they do. */
public final class SentencesTest {
    private static final Path DOCUMENT = Path.of("../shared/DOC.md");
    private static final int PROMISES = 28;
    private static final Due DUE = new Due("SentencesTest");

    private SentencesTest() {
    }

    public static void main(String[] args) throws IOException {
        Map<String, String> places = places(Files.readString(DOCUMENT));
        Map<String, Integer> tests = new TreeMap<>();
        for (String sentence : allSentences()) {
            String place = sentence.substring(0, sentence.indexOf(": "));
            String words = sentence.substring(place.length() + 2);
            boolean stands = places.getOrDefault(place, "").contains(words);
            DUE.is("whether this stands there: " + sentence, stands ? 1 : 0, 1);
            tests.merge(place, 1, Integer::sum);
        }
        for (int promise = 1; promise <= PROMISES; promise++) {
            DUE.is("whether promise " + promise + " has tests", tests.containsKey("Promise " + promise) ? 1 : 0, 1);
        }
        DUE.end();
    }

    private static List<String> allSentences() {
        List<String> all = new ArrayList<>();
        all.addAll(RefusedSentencesTest.tests().sentences());
        all.addAll(HillSentencesTest.tests().sentences());
        all.addAll(CutsSentencesTest.tests().sentences());
        all.addAll(WaysSentencesTest.tests().sentences());
        all.addAll(FencesSentencesTest.tests().sentences());
        return all;
    }

    /** The text under each heading, with single blanks; a heading counts up to its colon. */
    private static Map<String, String> places(String document) {
        Map<String, String> places = new TreeMap<>();
        for (String part : document.split("(?m)^## ")) {
            int end = part.indexOf('\n');
            if (end >= 0) {
                String heading = part.substring(0, end).split(":")[0].trim();
                places.put(heading, part.substring(end).replaceAll("\\s+", " "));
            }
        }
        return places;
    }
}
