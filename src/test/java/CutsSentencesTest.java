/** Section 2 of the terms, and promises 12 to 16: a test for each sentence that names a boundary case. */
public final class CutsSentencesTest {
    private static final int UNKNOWN = -1, OUTSIDE = -2, NONE = -6;
    private static final int MIN = Integer.MIN_VALUE, MAX = Integer.MAX_VALUE;
    private static final int ALL = 16777215;
    private static final int[] NO_HEIR = {-1, 6, MIN, MAX};
    private static final String ROCK = "r9r9r6", SORTS = "vwmrs";
    private static final Due DUE = new Due("CutsSentencesTest");

    private CutsSentencesTest() {
    }

    public static void main(String[] args) {
        tests().end();
    }

    static Due tests() {
        testsOfWorths();
        testsOfCuts();
        testsOfPromises12To14();
        testsOfPromises15And16();
        return DUE;
    }

    /** A hill of rock, which is worth nothing at first, but for RING 0. */
    private static HillSlices rockBut(String ring0) {
        return Due.hill("a9a9a6", ring0, ROCK, ROCK, ROCK, ROCK);
    }

    /** A WORTH of all SORTS alike to an HEIR. */
    private static void worthOfAll(HillSlices x, int heir, int v) {
        for (int sort = 0; sort < 5; sort++) {
            x.worth(heir, SORTS.charAt(sort), v);
        }
    }

    private static int answer(HillSlices x, boolean fair, int n, int i) {
        return fair ? x.fair(n, i) : x.best(n, i);
    }

    /** The answer to -1, the bounds, the HEIRS. */
    private static void cutIs(HillSlices x, boolean fair, int n, int... want) {
        String call = (fair ? "fair(" : "best(") + n + ", ";
        DUE.is(call + "-1)", answer(x, fair, n, -1), want[0]);
        for (int i = 0; i < n; i++) {
            DUE.is(call + i + ")", answer(x, fair, n, i), want[1 + i]);
            DUE.is(call + (10 + i) + ")", answer(x, fair, n, 10 + i), want[1 + n + i]);
        }
    }

    // ---- Terms: WORTHS, SHARES, who ENVIES whom

    private static void testsOfWorths() {
        String terms = "Terms";
        DUE.sentence(terms, "WORTH of a SORT to an HEIR (0 to 99;", CutsSentencesTest::worthsFrom0To99);
        DUE.sentence(terms, "10, 4, 3, 0, 1 for v, w, m, r, s at first, to each", CutsSentencesTest::worthsAtFirst);
        DUE.sentence(terms, "SHARE of SECTORS to an HEIR: WORTHS of all their CELLS together.",
            CutsSentencesTest::shareOfAllTheirCells);
        DUE.sentence(terms,
            "An HEIR ENVIES another one, if that one's SECTORS are worth more to it than its own.",
            CutsSentencesTest::enviesOnlyWhatIsMore);
    }

    private static void worthsFrom0To99() {
        HillSlices x = new HillSlices();
        DUE.is("worth 0", x.worth(5, 's', 0), 1);
        DUE.is("worth 99", x.worth(5, 's', 99), 0);
        int[] wrong = {-1, 100, MIN, MAX};
        for (int v : wrong) {
            DUE.is("worth " + v, x.worth(5, 's', v), OUTSIDE);
        }
        DUE.is("told(129)", x.told(129), 99);
    }

    private static void worthsAtFirst() {
        HillSlices x = new HillSlices();
        int[] worths = {10, 4, 3, 0, 1};
        for (int heir = 0; heir < 6; heir++) {
            for (int sort = 0; sort < 5; sort++) {
                DUE.is("told", x.told(100 + 5 * heir + sort), worths[sort]);
                DUE.is("worth", x.worth(heir, SORTS.charAt(sort), 50), worths[sort]);
            }
        }
    }

    private static void shareOfAllTheirCells() {
        HillSlices x = new HillSlices();
        DUE.is("share of none", x.share(0, 0), 0);
        DUE.is("share of the first", x.share(0, 1), 24);
        DUE.is("share of the last", x.share(0, 1 << 23), 24);
        DUE.is("share of the first and the last", x.share(0, 1 | 1 << 23), 48);
        DUE.is("share of all", x.share(5, ALL), 576);
        worthOfAll(x, 4, 99);
        DUE.is("share of all, the most", x.share(4, ALL), 120 * 99);
        worthOfAll(x, 4, 0);
        DUE.is("share of all, the least", x.share(4, ALL), 0);
        // A worth for each CELL alone shows that none is left out.
        for (int ring = 0; ring < 5; ring++) {
            HillSlices y = Due.hill("a9a9a6", ROCK, ROCK, ROCK, ROCK, ROCK);
            Due.ring(y, ring, "w1r9r9r4w1");
            DUE.is("share, wood in ring " + ring, y.share(1, ALL), 8);
            DUE.is("share of the first", y.share(1, 1), 4);
            DUE.is("share of the last", y.share(1, 1 << 23), 4);
            DUE.is("share of all others", y.share(1, ALL - 1 - (1 << 23)), 0);
        }
    }

    private static void enviesOnlyWhatIsMore() {
        HillSlices x = Due.hill("a8b8c8");
        DUE.is("envies(0), all alike", x.envies(0), 0);
        x = Due.hill("a8b8c8", "v9v9w1v5");
        // What is c's is worth less by one CELL of wood, and its own, too.
        DUE.is("envies(0), less", x.envies(0), 0);
        DUE.is("envies(2), more", x.envies(2), 3);
        x.worth(2, 'w', 11);
        DUE.is("envies(2), its own is one more", x.envies(2), 0);
        x.worth(0, 'w', 11);
        DUE.is("envies(0), the other's is one more", x.envies(0), 4);
        x.worth(0, 'w', 10);
        DUE.is("envies(0), alike again", x.envies(0), 0);
        // Of one that has none: whoever has something that is worth something.
        DUE.is("envies(5)", x.envies(5), 7);
        worthOfAll(x, 5, 0);
        DUE.is("envies(5), worth nothing", x.envies(5), 0);
    }

    // ---- Terms: CUTS

    private static void testsOfCuts() {
        String terms = "Terms";
        DUE.sentence(terms, "A CUT among HEIRS 0 to n less 1", CutsSentencesTest::cutAmongTheFirstHeirs);
        DUE.sentence(terms, "(n 2 to 4)", CutsSentencesTest::cutAmong2To4);
        DUE.sentence(terms, "the round in n arcs of SECTORS that follow one another", CutsSentencesTest::arcsGoRound);
        DUE.sentence(terms, "none empty", CutsSentencesTest::noArcIsEmpty);
        DUE.sentence(terms, "by bounds (SECTORS at which arcs begin, rising)", CutsSentencesTest::boundsRise);
        DUE.sentence(terms, "each HEIR one arc", CutsSentencesTest::eachHeirOneArc);
        DUE.sentence(terms, "FAIR CUT: none ENVIES another one by it", CutsSentencesTest::noneEnviesByFairCut);
        DUE.sentence(terms, "the first by bounds (the first bound, then the next one, ...)",
            CutsSentencesTest::firstByBounds);
        DUE.sentence(terms, "then by HEIRS of the arcs that begin there", CutsSentencesTest::thenByHeirs);
        DUE.sentence(terms, "BEST CUT: that by which the least SHARE (of each one's own arc to itself) is greatest",
            CutsSentencesTest::leastShareIsGreatest);
        DUE.sentence(terms, "likewise the first.", CutsSentencesTest::firstOfBest);
    }

    private static void cutAmongTheFirstHeirs() {
        HillSlices x = new HillSlices();
        for (int n = 2; n <= 4; n++) {
            int fair = 0;
            int best = 0;
            for (int i = 0; i < n; i++) {
                fair |= 1 << x.fair(n, 10 + i);
                best |= 1 << x.best(n, 10 + i);
            }
            DUE.is("heirs of fair " + n, fair, (1 << n) - 1);
            DUE.is("heirs of best " + n, best, (1 << n) - 1);
        }
        // To the HEIR n nothing is worth anything: with it in the CUT the least SHARE would be 0.
        worthOfAll(x, 2, 0);
        DUE.is("best(2, -1)", x.best(2, -1), 288);
        DUE.is("best(3, -1)", x.best(3, -1), 0);
        // Whose the SECTORS are does not matter: e and f have all.
        Due.slices(x, "e9f9e6");
        DUE.is("best(2, -1)", x.best(2, -1), 288);
        DUE.is("fair(2, 1)", x.fair(2, 1), 12);
    }

    private static void cutAmong2To4() {
        HillSlices x = new HillSlices();
        for (int n = 2; n <= 4; n++) {
            DUE.is("fair " + n, x.fair(n, -1), 1);
            DUE.is("best " + n, x.best(n, -1), 576 / n);
        }
        int[] wrong = {1, 5, 0, -2, 6, MIN, MAX};
        for (int n : wrong) {
            DUE.is("fair " + n, x.fair(n, -1), OUTSIDE);
            DUE.is("best " + n, x.best(n, -1), OUTSIDE);
        }
    }

    private static void arcsGoRound() {
        // Vines in SECTORS 23 and 0, and twice as many in 11: only an arc that goes on past 23 has both.
        HillSlices x = rockBut("v1r9r1v1r9r2v1");
        Due.ring(x, 1, "r9r2v1r9r3");
        cutIs(x, true, 2, 1, 1, 12, 0, 1);
        cutIs(x, false, 2, 20, 1, 12, 0, 1);
        // From 0 on the last arc ends with 23.
        cutIs(rockBut("v1r9r9r4v1"), true, 2, 1, 0, 1, 0, 1);
    }

    private static void noArcIsEmpty() {
        HillSlices x = rockBut(ROCK);
        cutIs(x, true, 2, 1, 0, 1, 0, 1);
        cutIs(x, true, 3, 1, 0, 1, 2, 0, 1, 2);
        cutIs(x, true, 4, 1, 0, 1, 2, 3, 0, 1, 2, 3);
        cutIs(x, false, 2, 0, 0, 1, 0, 1);
        cutIs(x, false, 4, 0, 0, 1, 2, 3, 0, 1, 2, 3);
        // b, c and d do not care: they have one SECTOR each, behind or ahead of all that a could want.
        HillSlices y = new HillSlices();
        worthOfAll(y, 1, 0);
        worthOfAll(y, 2, 0);
        worthOfAll(y, 3, 0);
        cutIs(y, true, 4, 1, 0, 1, 2, 3, 1, 2, 3, 0);
        // a and b have 0 with 1, and 2; c, who does not care, has what is behind, not nothing in between.
        HillSlices z = rockBut("v3r9r9r3");
        Due.ring(z, 1, "r2v1r9r9r3");
        z.worth(2, 'v', 0);
        cutIs(z, true, 3, 1, 0, 2, 3, 0, 1, 2);
    }

    private static void boundsRise() {
        // All that is worth something is in the last two SECTORS: the last bound there can be.
        cutIs(rockBut("r9r9r4v2"), true, 2, 1, 0, 23, 0, 1);
        cutIs(rockBut("r9r9r4v2"), false, 2, 10, 0, 23, 0, 1);
        cutIs(rockBut("r9r9r3v3"), true, 3, 1, 0, 22, 23, 0, 1, 2);
        cutIs(rockBut("r9r9r2v4"), true, 4, 1, 0, 21, 22, 23, 0, 1, 2, 3);
        // And the first: one SECTOR each from 0 on, but for the last arc.
        cutIs(rockBut("v4r9r9r2"), true, 4, 1, 0, 1, 2, 3, 0, 1, 2, 3);
        HillSlices x = new HillSlices();
        for (int n = 2; n <= 4; n++) {
            for (int i = 1; i < n; i++) {
                DUE.is("bounds of fair " + n + " rise", x.fair(n, i) > x.fair(n, i - 1) ? 1 : 0, 1);
                DUE.is("bounds of best " + n + " rise", x.best(n, i) > x.best(n, i - 1) ? 1 : 0, 1);
            }
        }
    }

    private static void eachHeirOneArc() {
        HillSlices x = new HillSlices();
        worthOfAll(x, 1, 0);
        // b would be served with nothing, a with both arcs.
        DUE.is("best(2, -1)", x.best(2, -1), 0);
        DUE.is("best(2, 10)", x.best(2, 10), 0);
        DUE.is("best(2, 11)", x.best(2, 11), 1);
        worthOfAll(x, 0, 0);
        for (int n = 2; n <= 4; n++) {
            for (int i = 0; i < n; i++) {
                DUE.is("fair " + n + " " + (10 + i), rockBut(ROCK).fair(n, 10 + i), i);
                DUE.is("best " + n + " " + (10 + i), rockBut(ROCK).best(n, 10 + i), i);
            }
        }
    }

    private static void noneEnviesByFairCut() {
        // Alike is fair; what is one less is not.
        cutIs(rockBut("v1r9r9r4v1"), true, 2, 1, 0, 1, 0, 1);
        HillSlices x = rockBut("v1r9r9r4w1");
        x.worth(0, 'w', 10);
        x.worth(1, 'w', 10);
        cutIs(x, true, 2, 1, 0, 1, 0, 1);
        // It is enough that one of them does not care which one it has.
        x.worth(1, 'w', 11);
        cutIs(x, true, 2, 1, 0, 1, 0, 1);
        x.worth(0, 'w', 11);
        cutIs(x, true, 2, NONE, NONE, NONE, NONE, NONE);
        // One CELL of vines can not be had by two.
        for (int n = 2; n <= 4; n++) {
            DUE.is("fair " + n + ", one vine", rockBut("r5v1r9r9").fair(n, -1), NONE);
            DUE.is("fair " + n + ", no vine", rockBut(ROCK).fair(n, -1), 1);
        }
        // Each arc of 0, 1, 2 is enough for one of them, but a would have b's rather than its own.
        HillSlices y = rockBut("w1v1m1r9r9r3");
        y.worth(0, 'w', 7);
        y.worth(0, 'v', 12);
        y.worth(0, 'm', 1);
        y.worth(1, 'w', 0);
        y.worth(1, 'm', 0);
        y.worth(2, 'w', 0);
        y.worth(2, 'v', 0);
        DUE.is("fair(3, -1), a would have b's arc", y.fair(3, -1), NONE);
        y.worth(0, 'v', 7);
        cutIs(y, true, 3, 1, 0, 1, 2, 0, 1, 2);
        DUE.is("fair(3, -1), two vines", rockBut("r5v2r9r8").fair(3, -1), NONE);
        DUE.is("fair(3, -1), three vines", rockBut("r5v3r9r7").fair(3, -1), 1);
        DUE.is("fair(4, -1), three vines", rockBut("r5v3r9r7").fair(4, -1), NONE);
        DUE.is("fair(4, -1), four vines", rockBut("r5v4r9r6").fair(4, -1), 1);
    }

    private static void firstByBounds() {
        // Bounds 0 and 4 to 10 are fair, and those at 1 to 3 with 4 to 10 as well.
        cutIs(rockBut("r3v1r6v1r9r4"), true, 2, 1, 0, 4, 0, 1);
        // The first bound comes first: 0 and 21 ahead of 1 and any other one.
        cutIs(rockBut("r9r9r2v1r2v1"), true, 2, 1, 0, 21, 0, 1);
        // Behind it the next one: 0, 4, 8 ahead of 0, 5, 8 and of 0, 4, 9.
        cutIs(rockBut("r3v1r3v1r3v1r9r3"), true, 3, 1, 0, 4, 8, 0, 1, 2);
        cutIs(rockBut("r1v1r1v1r1v1r1v1r9r7"), true, 4, 1, 0, 2, 4, 6, 0, 1, 2, 3);
    }

    private static void thenByHeirs() {
        // All HEIRS alike: each order is fair, the first is by HEIRS rising.
        cutIs(new HillSlices(), true, 3, 1, 0, 8, 16, 0, 1, 2);
        // a wants wood, b vines: at bounds 0 and 1 already b can have the first arc.
        HillSlices x = rockBut("v1w1r9r9r4");
        x.worth(0, 'v', 0);
        x.worth(1, 'w', 0);
        cutIs(x, true, 2, 1, 0, 1, 1, 0);
        // b alone can not have the first arc; of a and c it is a that has it.
        HillSlices y = rockBut("v1w2r9r9r3");
        y.worth(0, 'w', 10);
        y.worth(1, 'v', 0);
        y.worth(2, 'w', 10);
        cutIs(y, true, 3, 1, 0, 1, 2, 0, 1, 2);
        // c wants what is in the first arc alone.
        y.worth(2, 'w', 0);
        cutIs(y, true, 3, 1, 0, 1, 2, 2, 0, 1);
    }

    private static void leastShareIsGreatest() {
        // a wants wood (SECTORS 0 to 8), b vines (9 to 23): what the others' arcs are worth does not matter.
        HillSlices x = rockBut("w9v9v6");
        x.worth(0, 'v', 0);
        x.worth(0, 'w', 50);
        x.worth(1, 'w', 0);
        x.worth(1, 'v', 30);
        cutIs(x, false, 2, 450, 0, 9, 0, 1);
        // The other way round b has the first arc.
        HillSlices y = rockBut("v9v6w9");
        y.worth(0, 'v', 0);
        y.worth(0, 'w', 50);
        y.worth(1, 'w', 0);
        y.worth(1, 'v', 30);
        cutIs(y, false, 2, 450, 0, 15, 1, 0);
        // Not the sum: 10 and 10 rather than 0 and 90.
        cutIs(rockBut("v2r9r9r4"), false, 2, 10, 0, 1, 0, 1);
        // The greatest least SHARE may be 0.
        cutIs(rockBut("r5v1r9r9"), false, 2, 0, 0, 1, 0, 1);
        cutIs(rockBut("v3r9r9r3"), false, 4, 0, 0, 1, 2, 3, 0, 1, 2, 3);
        // It need not be fair.
        cutIs(rockBut("r3v3r9r9"), false, 2, 10, 0, 4, 0, 1);
    }

    private static void firstOfBest() {
        // Bounds 0 and 4 to 10 are alike, and those at 1 to 3 as well.
        cutIs(rockBut("r3v1r6v1r9r4"), false, 2, 10, 0, 4, 0, 1);
        cutIs(rockBut("r3v1r3v1r3v1r9r3"), false, 3, 10, 0, 4, 8, 0, 1, 2);
        cutIs(rockBut("r1v1r1v1r1v1r1v1r9r7"), false, 4, 10, 0, 2, 4, 6, 0, 1, 2, 3);
        // All orders of HEIRS are alike.
        cutIs(new HillSlices(), false, 4, 144, 0, 6, 12, 18, 0, 1, 2, 3);
        // The least SHARE is a's in any case: b ahead of c.
        HillSlices x = rockBut("w1v9v9v5");
        x.worth(0, 'v', 0);
        x.worth(0, 'w', 1);
        x.worth(1, 'w', 0);
        x.worth(2, 'w', 0);
        cutIs(x, false, 3, 1, 0, 1, 2, 0, 1, 2);
    }

    // ---- Promises 12 to 14

    private static void testsOfPromises12To14() {
        DUE.sentence("Promise 12", "WORTH of a SORT (its code) to an HEIR: which it was.", CutsSentencesTest::whichWorthItWas);
        DUE.sentence("Promise 12", "UNKNOWN (the HEIR)", CutsSentencesTest::worthUnknown);
        DUE.sentence("Promise 12", "OUTSIDE (another code, v).", CutsSentencesTest::worthOutside);
        DUE.sentence("Promise 13", "SHARE of SECTORS (bits) to an HEIR.", CutsSentencesTest::shareOfBits);
        DUE.sentence("Promise 13", "UNKNOWN", CutsSentencesTest::shareUnknown);
        DUE.sentence("Promise 13", "OUTSIDE: bits 0 to 16777215.", CutsSentencesTest::shareOutside);
        DUE.sentence("Promise 14", "HEIRS that an HEIR ENVIES, as bits.", CutsSentencesTest::enviesAsBits);
        DUE.sentence("Promise 14", "UNKNOWN.", CutsSentencesTest::enviesUnknown);
    }

    private static void whichWorthItWas() {
        HillSlices x = new HillSlices();
        int[] codes = {118, 119, 109, 114, 115};
        int[] first = {10, 4, 3, 0, 1};
        for (int sort = 0; sort < 5; sort++) {
            DUE.is("worth, first", x.worth(5, codes[sort], 99), first[sort]);
            DUE.is("worth, the most", x.worth(5, codes[sort], 0), 99);
            DUE.is("worth, the least", x.worth(5, codes[sort], 0), 0);
            DUE.is("worth of another HEIR", x.told(120 + sort), first[sort]);
        }
    }

    private static void worthUnknown() {
        HillSlices x = new HillSlices();
        for (int heir : NO_HEIR) {
            DUE.is("worth of " + heir, x.worth(heir, 'v', 1), UNKNOWN);
        }
        DUE.is("worth of 5", x.worth(5, 'v', 1), 10);
    }

    private static void worthOutside() {
        HillSlices x = new HillSlices();
        for (int code = -1; code < 260; code++) {
            if (SORTS.indexOf(code) < 0) {
                DUE.is("worth of code " + code, x.worth(0, code, 1), OUTSIDE);
            }
        }
        // Such as would be one of them by the last bits of their codes.
        int[] codes = {'v' + 65536, 'v' + 256, 's' - 65536, MIN, MAX};
        for (int code : codes) {
            DUE.is("worth of code " + code, x.worth(0, code, 1), OUTSIDE);
        }
        int[] values = {-1, 100, MIN, MAX};
        for (int v : values) {
            DUE.is("worth " + v, x.worth(0, 'v', v), OUTSIDE);
        }
        for (int i = 0; i < 5; i++) {
            DUE.is("told", x.told(100 + i), x.told(105 + i));
        }
    }

    private static void shareOfBits() {
        HillSlices x = new HillSlices();
        Due.ring(x, 0, "w1v9m9r4s1");
        DUE.is("share of no bit", x.share(5, 0), 0);
        DUE.is("share of the first bit", x.share(5, 1), 4 + 14);
        DUE.is("share of the second bit", x.share(5, 2), 10 + 14);
        DUE.is("share of both", x.share(5, 3), 14 + 28);
        DUE.is("share of the last bit", x.share(5, 1 << 23), 1 + 14);
        DUE.is("share of all bits", x.share(5, ALL), 4 + 90 + 27 + 1 + 24 * 14);
    }

    private static void shareUnknown() {
        HillSlices x = new HillSlices();
        for (int heir : NO_HEIR) {
            DUE.is("share of " + heir, x.share(heir, 1), UNKNOWN);
        }
        DUE.is("share of 5", x.share(5, 1), 24);
    }

    private static void shareOutside() {
        HillSlices x = new HillSlices();
        DUE.is("share of 0", x.share(0, 0), 0);
        DUE.is("share of 16777215", x.share(0, ALL), 576);
        int[] wrong = {-1, ALL + 1, MIN, MAX};
        for (int sectors : wrong) {
            DUE.is("share of sectors " + sectors, x.share(0, sectors), OUTSIDE);
        }
    }

    private static void enviesAsBits() {
        HillSlices x = Due.hill("a2b3c4d4e5f6");
        DUE.is("envies(0), all others", x.envies(0), 62);
        DUE.is("envies(1)", x.envies(1), 60);
        DUE.is("envies(2)", x.envies(2), 48);
        DUE.is("envies(4), the last one", x.envies(4), 32);
        DUE.is("envies(5), none", x.envies(5), 0);
        x = Due.hill("b9b9b6");
        DUE.is("envies(0), b alone", x.envies(0), 2);
        DUE.is("envies(1), who has all", x.envies(1), 0);
    }

    private static void enviesUnknown() {
        HillSlices x = new HillSlices();
        for (int heir : NO_HEIR) {
            DUE.is("envies " + heir, x.envies(heir), UNKNOWN);
        }
        DUE.is("envies(5)", x.envies(5), 1);
    }

    // ---- Promises 15 and 16

    private static void testsOfPromises15And16() {
        DUE.sentence("Promise 15",
            "FAIR CUT: 1 (i = -1), the i-th bound (0 to 3), the HEIR of the arc that begins there (10 and i)",
            CutsSentencesTest::fairAnswers);
        DUE.sentence("Promise 15", "NONE: there is none", CutsSentencesTest::thereIsNone);
        DUE.sentence("Promise 15", "there are not so many (any other i, too).", CutsSentencesTest::notSoMany);
        DUE.sentence("Promise 15", "OUTSIDE: n.", CutsSentencesTest::fairOutside);
        DUE.sentence("Promise 16", "BEST CUT: the least SHARE (i = -1), bounds, HEIRS, likewise.",
            CutsSentencesTest::bestAnswers);
        DUE.sentence("Promise 16", "OUTSIDE.", CutsSentencesTest::bestOutside);
    }

    private static void fairAnswers() {
        HillSlices x = new HillSlices();
        cutIs(x, true, 2, 1, 0, 12, 0, 1);
        cutIs(x, true, 3, 1, 0, 8, 16, 0, 1, 2);
        cutIs(x, true, 4, 1, 0, 6, 12, 18, 0, 1, 2, 3);
        // What was answered once does not stand when the hill is another one.
        Due.ring(x, 0, "r9r9r4v2");
        for (int ring = 1; ring < 5; ring++) {
            Due.ring(x, ring, ROCK);
        }
        cutIs(x, true, 2, 1, 0, 23, 0, 1);
        x.image(0);
        x.worth(0, 'v', 0);
        cutIs(x, true, 2, 1, 0, 1, 0, 1);
        x.restore(0);
        cutIs(x, true, 2, 1, 0, 23, 0, 1);
    }

    private static void thereIsNone() {
        HillSlices x = rockBut("r5v1r9r9");
        for (int n = 2; n <= 4; n++) {
            for (int i = -1; i < 14; i++) {
                DUE.is("fair(" + n + ", " + i + ")", x.fair(n, i), NONE);
            }
        }
    }

    /** Each i from -20 to 40 but those to which there is an answer. */
    private static void othersAreNone(boolean fair) {
        HillSlices x = new HillSlices();
        for (int n = 2; n <= 4; n++) {
            for (int i = -20; i < 40; i++) {
                boolean some = i == -1 || i >= 0 && i < n || i >= 10 && i < 10 + n;
                if (!some) {
                    DUE.is((fair ? "fair(" : "best(") + n + ", " + i + ")", answer(x, fair, n, i), NONE);
                }
            }
            DUE.is("the least i", answer(x, fair, n, MIN), NONE);
            DUE.is("the greatest i", answer(x, fair, n, MAX), NONE);
            DUE.is("the last bound", answer(x, fair, n, n - 1), 24 - 24 / n);
            DUE.is("the last HEIR", answer(x, fair, n, 10 + n - 1), n - 1);
        }
    }

    private static void notSoMany() {
        othersAreNone(true);
    }

    private static void fairOutside() {
        HillSlices x = new HillSlices();
        int[] wrong = {1, 5, 0, -1, MIN, MAX};
        for (int n : wrong) {
            DUE.is("fair " + n, x.fair(n, -1), OUTSIDE);
            DUE.is("fair " + n + ", a bound", x.fair(n, 0), OUTSIDE);
            DUE.is("fair " + n + ", another i", x.fair(n, 99), OUTSIDE);
        }
        DUE.is("fair(2, 99)", x.fair(2, 99), NONE);
    }

    private static void bestAnswers() {
        HillSlices x = new HillSlices();
        cutIs(x, false, 2, 288, 0, 12, 0, 1);
        cutIs(x, false, 3, 192, 0, 8, 16, 0, 1, 2);
        cutIs(x, false, 4, 144, 0, 6, 12, 18, 0, 1, 2, 3);
        othersAreNone(false);
        // There always is one, if of nothing.
        cutIs(rockBut("r5v1r9r9"), false, 3, 0, 0, 1, 2, 0, 1, 2);
        // What was answered once does not stand when the hill is another one.
        x.image(0);
        x.worth(1, 'v', 99);
        DUE.is("best(2, -1)", x.best(2, -1) > 288 ? 1 : 0, 1);
        x.restore(0);
        DUE.is("best(2, -1)", x.best(2, -1), 288);
        Due.ring(x, 0, ROCK);
        DUE.is("best(2, -1)", x.best(2, -1), 168);
    }

    private static void bestOutside() {
        HillSlices x = new HillSlices();
        int[] wrong = {1, 5, 0, -1, MIN, MAX};
        for (int n : wrong) {
            DUE.is("best " + n, x.best(n, -1), OUTSIDE);
            DUE.is("best " + n + ", a bound", x.best(n, 0), OUTSIDE);
            DUE.is("best " + n + ", another i", x.best(n, 99), OUTSIDE);
        }
        DUE.is("best(4, 99)", x.best(4, 99), NONE);
    }
}
