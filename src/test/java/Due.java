/** Counts the answers that are not the ones that are due, and tells them. */
final class Due {
    private final String test;
    private int right;
    private int wrong;

    Due(String test) {
        this.test = test;
    }

    void is(String call, long got, long want) {
        if (got == want) {
            right++;
        } else {
            wrong++;
            System.out.println(test + ": " + call + " answered " + got + ", due is " + want);
        }
    }

    /** Ends the test: with exit code 1 if an answer was not as due. */
    void end() {
        System.out.println(test + ": " + right + " right, " + wrong + " wrong");
        if (wrong != 0 || right == 0) {
            System.exit(1);
        }
    }

    boolean hasWrong() {
        return wrong != 0;
    }

    /** Says a whole text; the PAD must have room for it. */
    static HillSlices say(HillSlices x, String text) {
        for (int i = 0; i < text.length(); i++) {
            if (x.say(text.charAt(i)) < 0) {
                throw new IllegalStateException("not said: " + text);
            }
        }
        return x;
    }

    static int ring(HillSlices x, int ring, String text) {
        return say(x, text).ring(ring);
    }

    static int slices(HillSlices x, String text) {
        return say(x, text).slices();
    }

    static int will(HillSlices x, String text) {
        return say(x, text).will();
    }

    /** A hill with these SLICES and with RINGS from the foot on. */
    static HillSlices hill(String slices, String... rings) {
        HillSlices x = new HillSlices();
        slices(x, slices);
        for (int ring = 0; ring < rings.length; ring++) {
            ring(x, ring, rings[ring]);
        }
        return x;
    }
}
