import java.util.function.ToIntFunction;

/** What the document says of all calls: how many there may be, and what a refused one answers and changes. */
public final class RefusedSentencesTest {
    private static final int UNKNOWN = -1, OUTSIDE = -2, STATE = -3, FULL = -4, NO = -5;
    private static final int MIN = Integer.MIN_VALUE, MAX = Integer.MAX_VALUE;
    private static final Due DUE = new Due("RefusedSentencesTest");

    private RefusedSentencesTest() {
    }

    public static void main(String[] args) {
        tests().end();
    }

    static Due tests() {
        DUE.sentence("What it is", "An object is used for at most 512 calls after it has been made",
            RefusedSentencesTest::all512Calls);
        DUE.sentence("Terms", "UNKNOWN -1 (there is no such HEIR, RING, SECTOR)", RefusedSentencesTest::unknownFirst);
        DUE.sentence("Terms", "OUTSIDE -2 (another number is not as told)", RefusedSentencesTest::outsideAheadOfStateAndFull);
        DUE.sentence("Terms", "STATE -3 (as told)", RefusedSentencesTest::stateIsMinus3);
        DUE.sentence("Terms", "FULL -4", RefusedSentencesTest::fullAheadOfNo);
        DUE.sentence("Terms", "NO -5 (as told)", RefusedSentencesTest::noIsLast);
        DUE.sentence("Terms", "They change nothing.", RefusedSentencesTest::refusedCallsChangeNothing);
        return DUE;
    }

    private static void all512Calls() {
        HillSlices x = new HillSlices();
        // 20 WEDDINGS, 60 signs, and 432 calls more, the last one as right as the first.
        for (int call = 1; call <= 20; call++) {
            DUE.is("wedding, call " + call, x.wedding(call % 2, 1 - call % 2), call);
        }
        for (int call = 21; call <= 80; call++) {
            DUE.is("say, call " + call, x.say('a'), call - 20);
        }
        for (int call = 81; call <= 510; call++) {
            DUE.is("told(0), call " + call, x.told(0), 60);
        }
        DUE.is("call 511", x.wipe(), 60);
        DUE.is("call 512", x.best(4, -1), 144);
        // What is kept or searched once more takes no more room than the first time.
        HillSlices y = new HillSlices();
        for (int call = 1; call <= 512; call++) {
            DUE.is("image, call " + call, y.image(call % 2), 1);
        }
        HillSlices z = new HillSlices();
        for (int call = 1; call <= 512; call++) {
            DUE.is("fair, call " + call, z.fair(2 + call % 3, -1), 1);
        }
    }

    /** GENERATION 20, a full PAD with a FAULT, no IMAGE: whatever can be refused is. */
    private static HillSlices full() {
        HillSlices x = new HillSlices();
        for (int generation = 1; generation <= 20; generation++) {
            x.wedding(1, 0);
        }
        return Due.say(x, "x".repeat(60));
    }

    private static void unknownFirst() {
        HillSlices x = full();
        // Ahead of OUTSIDE.
        DUE.is("was", x.was(24, 21), UNKNOWN);
        DUE.is("worth", x.worth(6, 'x', 100), UNKNOWN);
        DUE.is("share", x.share(6, -1), UNKNOWN);
        DUE.is("way of no HEIR", x.way(6, 0, 0, 3), UNKNOWN);
        DUE.is("way from no SECTOR", x.way(0, 24, 0, 3), UNKNOWN);
        DUE.is("way to no SECTOR", x.way(0, 0, 24, 3), UNKNOWN);
        DUE.is("stone of no RING", x.stone(5, 0, 2), UNKNOWN);
        DUE.is("stone of no SECTOR", x.stone(0, 24, 2), UNKNOWN);
        DUE.is("avalanche of no RING", x.avalanche(5, 0, 2), UNKNOWN);
        DUE.is("avalanche of no SECTOR", x.avalanche(0, 24, 2), UNKNOWN);
        DUE.is("spring, goes", x.spring(24, 24, 0, 0), UNKNOWN);
        DUE.is("spring, year", x.spring(24, 0, 1000, 0), UNKNOWN);
        DUE.is("spring, what", x.spring(24, 0, 0, 1), UNKNOWN);
        // Ahead of FULL.
        DUE.is("wedding of no HEIR", x.wedding(6, 0), UNKNOWN);
        DUE.is("wedding with no HEIR", x.wedding(0, 6), UNKNOWN);
        DUE.is("wedding with itself", x.wedding(3, 3), UNKNOWN);
        // Ahead of NO.
        DUE.is("ring", x.ring(5), UNKNOWN);
        DUE.is("ring", x.ring(-1), UNKNOWN);
    }

    private static void outsideAheadOfStateAndFull() {
        HillSlices x = full();
        // Ahead of STATE.
        DUE.is("avalanche where no snow is", x.avalanche(0, 0, 2), OUTSIDE);
        DUE.is("avalanche where no snow is", x.avalanche(0, 0, -1), OUTSIDE);
        DUE.is("restore, nothing kept", x.restore(2), OUTSIDE);
        DUE.is("restore, nothing kept", x.restore(-1), OUTSIDE);
        // Ahead of FULL.
        DUE.is("say on a full PAD", x.say(32), OUTSIDE);
        DUE.is("say on a full PAD", x.say(127), OUTSIDE);
    }

    private static void stateIsMinus3() {
        HillSlices x = full();
        DUE.is("avalanche", x.avalanche(0, 0, 0), STATE);
        DUE.is("avalanche", x.avalanche(3, 23, 1), STATE);
        DUE.is("restore", x.restore(0), STATE);
    }

    private static void fullAheadOfNo() {
        HillSlices x = full();
        DUE.is("say", x.say('x'), FULL);
        DUE.is("wedding", x.wedding(0, 1), FULL);
        DUE.is("will(), with a FAULT", x.will(), FULL);
        x.wipe();
        DUE.is("will(), an empty PAD", x.will(), FULL);
        DUE.is("will(), without a FAULT", Due.will(x, "a:"), FULL);
    }

    private static void noIsLast() {
        HillSlices x = full();
        DUE.is("ring", x.ring(0), NO);
        DUE.is("slices", x.slices(), NO);
        DUE.is("will", Due.say(new HillSlices(), "x").will(), NO);
    }

    // ---- what a refused call leaves as it was

    private static void refusedCallsChangeNothing() {
        onAnyHill();
        inGeneration20();
        onAFullPad();
        withoutImages();
    }

    /** A hill on which there is something of everything, and on the PAD a RING. */
    private static HillSlices anyHill() {
        HillSlices x = Due.hill("a5b5c5d5f4", "w9m9v6", "m9v9r6", "v9w9m6");
        Due.will(x, "b:a2e3");
        x.wedding(3, 2);
        x.worth(0, 'v', 44);
        x.worth(5, 's', 55);
        x.toll(66);
        x.image(0);
        x.right(0, 1, true);
        x.right(5, 4, true);
        x.image(1);
        x.toll(77);
        return Due.say(x, "s9s9s6");
    }

    private static HillSlices hillInGeneration20() {
        HillSlices x = anyHill();
        for (int generation = 3; generation <= 20; generation++) {
            x.wedding(2 + generation % 2, 3 - generation % 2);
        }
        x.wipe();
        return Due.say(x, "a:f7");
    }

    private static HillSlices hillWithAFullPad() {
        return Due.say(anyHill(), "v".repeat(54));
    }

    private static HillSlices hillWithoutImages() {
        return Due.say(Due.hill("a5b5c5d5f4"), "s9s9s6");
    }

    private static HillSlices hill(int kind) {
        switch (kind) {
            case 0:
                return anyHill();
            case 1:
                return hillInGeneration20();
            case 2:
                return hillWithAFullPad();
            default:
                return hillWithoutImages();
        }
    }

    /** A hill behind a refused call must answer what one answers on which it was not made. */
    private static void refused(int kind, String call, ToIntFunction<HillSlices> refusal, int want) {
        HillSlices x = hill(kind);
        DUE.is(call, refusal.applyAsInt(x), want);
        sameAnswers(call, x, hill(kind));
    }

    private static void sameAnswers(String call, HillSlices x, HillSlices y) {
        for (int what = 0; what < 130; what++) {
            if (what < 3 || what >= 10 && what < 26 || what >= 100) {
                DUE.is("told " + what + " behind " + call, x.told(what), y.told(what));
            }
        }
        for (int cell = 0; cell < 120; cell++) {
            DUE.is("cell " + cell + " behind " + call, x.cell(cell / 24, cell % 24), y.cell(cell / 24, cell % 24));
        }
        for (int generation = 0; generation <= 20; generation++) {
            for (int sector = 0; sector < 24; sector += 7) {
                DUE.is("was behind " + call, x.was(sector, generation), y.was(sector, generation));
            }
        }
        for (int how = 0; how < 3; how++) {
            DUE.is("fault " + how + " behind " + call, x.fault(how), y.fault(how));
        }
        DUE.is("best behind " + call, x.best(3, -1), y.best(3, -1));
        DUE.is("ring behind " + call, x.ring(0), y.ring(0));
        for (int n = 0; n < 2; n++) {
            DUE.is("restore behind " + call, x.restore(n), y.restore(n));
            DUE.is("told(2) behind " + call, x.told(2), y.told(2));
            DUE.is("told(20) behind " + call, x.told(20), y.told(20));
        }
    }

    private static void onAnyHill() {
        int[] noHeir = {-1, 6, MIN, MAX};
        for (int heir : noHeir) {
            refused(0, "wedding of no HEIR", x -> x.wedding(heir, 0), UNKNOWN);
            refused(0, "wedding with no HEIR", x -> x.wedding(0, heir), UNKNOWN);
            refused(0, "worth of no HEIR", x -> x.worth(heir, 'v', 9), UNKNOWN);
            refused(0, "right of no HEIR", x -> x.right(heir, 1, true), UNKNOWN);
            refused(0, "right to no HEIR", x -> x.right(0, heir, true), UNKNOWN);
        }
        int[] noRing = {-1, 5, MIN, MAX};
        for (int ring : noRing) {
            refused(0, "ring " + ring, x -> x.ring(ring), UNKNOWN);
        }
        int[] noImage = {-1, 2, MIN, MAX};
        for (int n : noImage) {
            refused(0, "image " + n, x -> x.image(n), OUTSIDE);
            refused(0, "restore " + n, x -> x.restore(n), OUTSIDE);
        }
        int[] noWorth = {-1, 100, MIN, MAX};
        for (int v : noWorth) {
            refused(0, "worth " + v, x -> x.worth(0, 'v', v), OUTSIDE);
            refused(0, "toll " + v, x -> x.toll(v), OUTSIDE);
        }
        int[] noSign = {32, 127, 97 + 65536, MIN, MAX};
        for (int sign : noSign) {
            refused(0, "say " + sign, x -> x.say(sign), OUTSIDE);
            refused(0, "worth of sort " + sign, x -> x.worth(0, sign, 9), OUTSIDE);
        }
        refused(0, "wedding with itself", x -> x.wedding(3, 3), UNKNOWN);
        refused(0, "right to itself", x -> x.right(0, 0, true), UNKNOWN);
        refused(0, "slices() with a FAULT", HillSlices::slices, NO);
        refused(0, "will() with a FAULT", HillSlices::will, NO);
        refused(0, "fault(3)", x -> x.fault(3), OUTSIDE);
        refusedQuestions();
    }

    private static void refusedQuestions() {
        refused(0, "cell", x -> x.cell(5, 0), UNKNOWN);
        refused(0, "was", x -> x.was(24, 0), UNKNOWN);
        refused(0, "was", x -> x.was(0, 3), OUTSIDE);
        refused(0, "has", x -> x.has(6), UNKNOWN);
        refused(0, "share", x -> x.share(6, 1), UNKNOWN);
        refused(0, "share", x -> x.share(0, 1 << 24), OUTSIDE);
        refused(0, "envies", x -> x.envies(6), UNKNOWN);
        refused(0, "fair", x -> x.fair(5, -1), OUTSIDE);
        refused(0, "best", x -> x.best(1, -1), OUTSIDE);
        refused(0, "way", x -> x.way(0, 0, 24, 0), UNKNOWN);
        refused(0, "way", x -> x.way(0, 0, 0, 3), OUTSIDE);
        refused(0, "stone", x -> x.stone(5, 0, 0), UNKNOWN);
        refused(0, "stone", x -> x.stone(0, 0, 2), OUTSIDE);
        refused(0, "avalanche", x -> x.avalanche(5, 0, 0), UNKNOWN);
        refused(0, "avalanche", x -> x.avalanche(0, 0, 2), OUTSIDE);
        refused(0, "avalanche", x -> x.avalanche(0, 0, 0), STATE);
        refused(0, "rolls", x -> x.rolls(6), UNKNOWN);
        refused(0, "fence", x -> x.fence(6), UNKNOWN);
        refused(0, "spring", x -> x.spring(24, 0, 0, 0), UNKNOWN);
        refused(0, "spring", x -> x.spring(0, 24, 0, 0), OUTSIDE);
        refused(0, "bounds", x -> x.bounds(3), OUTSIDE);
        refused(0, "told", x -> x.told(3), OUTSIDE);
    }

    private static void inGeneration20() {
        DUE.is("fault(2) in GENERATION 20", hillInGeneration20().fault(2), -6);
        refused(1, "will(), full", HillSlices::will, FULL);
        refused(1, "wedding, full", x -> x.wedding(0, 5), FULL);
        refused(1, "ring with a FAULT", x -> x.ring(4), NO);
        refused(1, "slices() with a FAULT", HillSlices::slices, NO);
    }

    private static void onAFullPad() {
        refused(2, "say, full", x -> x.say('v'), FULL);
        refused(2, "ring with a FAULT", x -> x.ring(4), NO);
    }

    private static void withoutImages() {
        refused(3, "restore(0), not kept", x -> x.restore(0), STATE);
        refused(3, "restore(1), not kept", x -> x.restore(1), STATE);
        // The other one is not kept for that.
        HillSlices x = hillWithoutImages();
        x.image(2);
        DUE.is("restore(0) behind image(2)", x.restore(0), STATE);
        DUE.is("restore(1) behind image(2)", x.restore(1), STATE);
    }
}
