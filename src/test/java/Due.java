import java.util.ArrayList;
import java.util.List;
import java.util.Set;
import java.util.TreeSet;

/** Counts the answers that are not the ones that are due, and tells them. */
final class Due {
    private final String test;
    private final List<String> told = new ArrayList<>();
    private final Set<String> sentences = new TreeSet<>();
    private final Set<String> wrongSentences = new TreeSet<>();
    /** The sentence whose test runs; empty in tests that are not of one sentence. */
    private String sentence = "";
    private int right;

    Due(String test) {
        this.test = test;
    }

    void is(String call, long got, long want) {
        if (got == want) {
            right++;
        } else {
            tell(call + " answered " + got + ", due is " + want);
        }
    }

    private void tell(String what) {
        told.add(test + ": " + (sentence.isEmpty() ? "" : sentence + ": ") + what);
    }

    /** Runs the test of one sentence of the document, told by its place there and its words. */
    void sentence(String place, String words, Runnable testOfIt) {
        sentence = place + ": " + words;
        int wrongBefore = told.size();
        int rightBefore = right;
        if (!sentences.add(sentence)) {
            tell("has two tests");
        }
        try {
            testOfIt.run();
        } catch (RuntimeException thrown) {
            // No call may ever throw, so this is a wrong answer as well.
            tell("threw " + thrown);
        }
        if (told.size() == wrongBefore && right == rightBefore) {
            tell("nothing is tested");
        }
        if (told.size() > wrongBefore) {
            wrongSentences.add(sentence);
        }
        sentence = "";
    }

    Set<String> sentences() {
        return sentences;
    }

    Set<String> wrongSentences() {
        return wrongSentences;
    }

    /** Ends the test: with exit code 1 if an answer was not as due. */
    void end() {
        for (String what : told) {
            System.out.println(what);
        }
        System.out.println(test + ": " + right + " right, " + told.size() + " wrong");
        if (hasWrong() || right == 0) {
            System.exit(1);
        }
    }

    boolean hasWrong() {
        return !told.isEmpty();
    }

    /** Says a whole text; the PAD must have room for it. */
    static HillSlices say(HillSlices x, String text) {
        for (int i = 0; i < text.length(); i++) {
            if (x.say(text.charAt(i)) < 0) {
                throw new IllegalStateException("not said: " + text);
            }
        }
        return x;
    }

    static int ring(HillSlices x, int ring, String text) {
        return say(x, text).ring(ring);
    }

    static int slices(HillSlices x, String text) {
        return say(x, text).slices();
    }

    static int will(HillSlices x, String text) {
        return say(x, text).will();
    }

    /** A hill with these SLICES and with RINGS from the foot on. */
    static HillSlices hill(String slices, String... rings) {
        HillSlices x = new HillSlices();
        slices(x, slices);
        for (int ring = 0; ring < rings.length; ring++) {
            ring(x, ring, rings[ring]);
        }
        return x;
    }
}
