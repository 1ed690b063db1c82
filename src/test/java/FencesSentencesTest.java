/** Section 4 of the terms, and promises 23 to 28: a test for each sentence that names a boundary case. */
public final class FencesSentencesTest {
    private static final int UNKNOWN = -1, OUTSIDE = -2, STATE = -3, NONE = -6;
    private static final int MIN = Integer.MIN_VALUE, MAX = Integer.MAX_VALUE;
    private static final int ALL = 16777215;
    private static final int[] NO_SECTOR = {-1, 24, MIN, MAX}, NO_HEIR = {-1, 6, MIN, MAX};
    private static final String ROCK = "r9r9r6", EACH_ITS_OWN = "a1b1a1b1a1b1a1b1a1b1a1b1a1b1a1b1a1b1a1b1a1b1a1b1";
    private static final Due DUE = new Due("FencesSentencesTest");

    private FencesSentencesTest() {
    }

    public static void main(String[] args) {
        tests().end();
    }

    static Due tests() {
        testsOfFences();
        testsOfSprings();
        testsOfBounds();
        testsOfPromises23To25();
        testsOfPromises26To28();
        return DUE;
    }

    // ---- Terms: FENCES

    private static void testsOfFences() {
        String terms = "Terms";
        DUE.sentence(terms, "from its meadows (m) to vines (v) of others no way may be left",
            FencesSentencesTest::fromItsMeadowsToOthersVines);
        DUE.sentence(terms, "through CELLS that are side by side", FencesSentencesTest::throughAllCells);
        DUE.sentence(terms, "between two CELLS of one RING a fence is 2 long", FencesSentencesTest::fenceOf2InOneRing);
        DUE.sentence(terms, "between one and that above it 5 less the lower RING",
            FencesSentencesTest::fenceOf5LessTheLowerRing);
        DUE.sentence(terms, "the least length.", FencesSentencesTest::leastLength);
    }

    /** A hill of rock, a's but for b's SECTOR 12: one meadow in SECTOR 0 and one CELL of vines in 12. */
    private static HillSlices meadowAndVines(int ringOfMeadow, int ringOfVines) {
        HillSlices x = Due.hill("a9a3b1a9a2", ROCK, ROCK, ROCK, ROCK, ROCK);
        if (ringOfMeadow == ringOfVines) {
            Due.ring(x, ringOfMeadow, "m1r9r2v1r9r2");
        } else {
            Due.ring(x, ringOfMeadow, "m1r9r9r5");
            Due.ring(x, ringOfVines, "r9r3v1r9r2");
        }
        return x;
    }

    private static void fromItsMeadowsToOthersVines() {
        HillSlices x = new HillSlices();
        // At first all vines are a's own; others have no meadows.
        for (int heir = 0; heir < 6; heir++) {
            DUE.is("fence " + heir, x.fence(heir), 0);
        }
        HillSlices y = meadowAndVines(4, 4);
        DUE.is("fence of the one with the meadow", y.fence(0), 6);
        DUE.is("fence of the one with the vines", y.fence(1), 0);
        DUE.is("fence of a third one", y.fence(2), 0);
        // Its own vines and others' meadows need none.
        Due.slices(y, "b9b9b6");
        DUE.is("fence, both its own", y.fence(1), 0);
        Due.slices(y, "b1c9c9c5");
        DUE.is("fence(1)", y.fence(1), 6);
        Due.slices(y, "c9c3b1c9c2");
        DUE.is("fence(1), only its vines", y.fence(1), 0);
        // No meadows at all, or no vines.
        Due.ring(y, 4, "r9r3v1r9r2");
        DUE.is("fence, no meadows", y.fence(2), 0);
        Due.ring(y, 4, "m1r9r9r5");
        DUE.is("fence, no vines", y.fence(2), 0);
    }

    private static void throughAllCells() {
        // Beasts go through wood, rock, snow, their own vines and others' meadows.
        String[] between = {"w9w9w6", "r9r9r6", "s9s9s6"};
        for (String sort : between) {
            HillSlices x = Due.hill("a9a3b1a9a2", sort, sort, sort, sort, "m1v9v2v1v9v2");
            DUE.is("fence over " + sort, x.fence(0), 6);
            Due.ring(x, 4, "m1m9m2v1m9m2");
            DUE.is("fence over " + sort, x.fence(0), 6);
        }
        // From 0 to 23 the other way is no longer than to 1.
        HillSlices y = Due.hill("a1b9b9b5", ROCK, ROCK, ROCK, ROCK, "m1r9r9r4v1");
        DUE.is("fence to SECTOR 23", y.fence(0), 6);
        Due.ring(y, 4, "m1v1r9r9r4");
        DUE.is("fence to SECTOR 1", y.fence(0), 6);
        // Past the top and the foot there is no way.
        Due.ring(y, 4, ROCK);
        Due.ring(y, 0, "m1v1r9r9r4");
        DUE.is("fence at the foot", y.fence(0), 9);
    }

    private static void fenceOf2InOneRing() {
        String half = "m9m3v9v3";
        HillSlices x = Due.hill("a9a3b9b3", half, half, half, half, half);
        // Five RINGS, between 11 and 12 and between 23 and 0.
        DUE.is("fence(0)", x.fence(0), 20);
        Due.slices(x, "a1b9b9b5");
        DUE.is("fence(0), all of a's own meadow", x.fence(0), 20);
        Due.slices(x, "b9b9b5a1");
        DUE.is("fence(0), no meadow", x.fence(0), 0);
        DUE.is("fence(1), a's vines in one SECTOR", x.fence(1), 20);
        // From 23 on to 0 as well as from 0 back to 23.
        HillSlices y = Due.hill("b9b3a9a3", "v9v3m9m3", ROCK, ROCK, ROCK, ROCK);
        DUE.is("fence(0), through the rock above as well", y.fence(0), 20);
        half = "v9v3m9m3";
        for (int ring = 0; ring < 5; ring++) {
            Due.ring(y, ring, half);
        }
        DUE.is("fence(0)", y.fence(0), 20);
    }

    private static void fenceOf5LessTheLowerRing() {
        // Round one CELL: 2 on each side, and to those below and above.
        DUE.is("fence in RING 0", meadowAndVines(0, 0).fence(0), 2 + 2 + 5);
        DUE.is("fence in RING 2", meadowAndVines(2, 2).fence(0), 2 + 2 + 4 + 3);
        DUE.is("fence in RING 3", meadowAndVines(3, 3).fence(0), 2 + 2 + 3 + 2);
        DUE.is("fence in RING 4", meadowAndVines(4, 4).fence(0), 2 + 2 + 2);
        // All round between two RINGS: 24 of the same length.
        int[] lengths = {0, 24 * 4, 24 * 3, 24 * 2};
        for (int ring = 1; ring < 4; ring++) {
            HillSlices x = Due.hill(EACH_ITS_OWN, ROCK, ROCK, ROCK, ROCK, ROCK);
            Due.ring(x, ring, "m9m9m6");
            Due.ring(x, ring + 1, "v9v9v6");
            DUE.is("fence(0) above RING " + ring, x.fence(0), lengths[ring]);
            DUE.is("fence(1) above RING " + ring, x.fence(1), lengths[ring]);
        }
    }

    private static void leastLength() {
        // In RING 1 it is shorter to take in the CELL below as well: 12, not 13.
        DUE.is("fence in RING 1", meadowAndVines(1, 1).fence(0), 12);
        // Round the meadow or round the vines, whichever is shorter.
        DUE.is("fence from RING 4 to 2", meadowAndVines(4, 2).fence(0), 6);
        DUE.is("fence from RING 2 to 4", meadowAndVines(2, 4).fence(0), 6);
        DUE.is("fence from RING 1 to 2", meadowAndVines(1, 2).fence(0), 11);
        // Round four meadows of which each needs 6: together 12.
        HillSlices x = Due.hill("a4b9b9b2", ROCK, ROCK, ROCK, ROCK, "m4v1r9r9v1");
        DUE.is("fence round four", x.fence(0), 2 * 4 + 2 + 2);
        Due.ring(x, 4, "m4v1r9r9r1");
        DUE.is("fence round the vines", x.fence(0), 6);
        DUE.is("fence where none is needed", new HillSlices().fence(0), 0);
        // Where neither round all meadows nor round all vines is shortest.
        HillSlices y = Due.hill("b1a9b6b4a4", "r7m6r3r7m1", ROCK, "v1v4m8v2m3r6", ROCK, ROCK);
        DUE.is("fence(0), in between", y.fence(0), 28);
        DUE.is("fence(1), in between", y.fence(1), 20);
    }

    // ---- Terms: SPRINGS

    private static void testsOfSprings() {
        String terms = "Terms";
        DUE.sentence(terms, "A SPRING is in a SECTOR in year 0, and goes so many SECTORS on each year (0 to 23)",
            FencesSentencesTest::springGoes0To23);
        DUE.sentence(terms, "whose it is in a year (0 to 999)", FencesSentencesTest::years0To999);
        DUE.sentence(terms, "by SLICES as they are", FencesSentencesTest::bySlicesAsTheyAre);
        DUE.sentence(terms, "how many of years 0 to a year an HEIR has it", FencesSentencesTest::howManyYears);
        DUE.sentence(terms, "the first year.", FencesSentencesTest::firstYear);
    }

    private static void springGoes0To23() {
        HillSlices x = Due.hill("a1b9b9b4c1");
        // In year 0 it is where it is, however it goes.
        DUE.is("spring(0, 23, 0, 0)", x.spring(0, 23, 0, 0), 0);
        DUE.is("spring(23, 1, 0, 0)", x.spring(23, 1, 0, 0), 2);
        // It may stay; one SECTOR on, and 23 on, past 23.
        DUE.is("spring(0, 0, 999, 0)", x.spring(0, 0, 999, 0), 0);
        DUE.is("spring(23, 1, 1, 0)", x.spring(23, 1, 1, 0), 0);
        DUE.is("spring(0, 23, 1, 0)", x.spring(0, 23, 1, 0), 2);
        DUE.is("spring(1, 23, 1, 0)", x.spring(1, 23, 1, 0), 0);
        DUE.is("spring(22, 1, 1, 0)", x.spring(22, 1, 1, 0), 2);
        int[] wrong = {-1, 24, MIN, MAX};
        for (int goes : wrong) {
            DUE.is("spring going " + goes, x.spring(0, goes, 1, 0), OUTSIDE);
        }
    }

    private static void years0To999() {
        HillSlices x = Due.hill("a1b9b9b5");
        DUE.is("spring, year 0", x.spring(0, 1, 0, 0), 0);
        DUE.is("spring, year 24", x.spring(0, 1, 24, 0), 0);
        // 999 years are 41 rounds and 15 SECTORS, the one way and the other.
        DUE.is("spring, year 999", x.spring(9, 1, 999, 0), 0);
        DUE.is("spring, year 999", x.spring(10, 1, 999, 0), 1);
        DUE.is("spring, year 999", x.spring(15, 23, 999, 0), 0);
        DUE.is("spring, year 999", x.spring(16, 23, 999, 0), 1);
        int[] wrong = {-1, 1000, MIN, MAX};
        for (int year : wrong) {
            DUE.is("spring, whose in year " + year, x.spring(0, 1, year, 0), OUTSIDE);
            DUE.is("spring, how many until year " + year, x.spring(0, 1, year, 10), OUTSIDE);
            DUE.is("spring, first until year " + year, x.spring(0, 1, year, 20), OUTSIDE);
        }
    }

    private static void bySlicesAsTheyAre() {
        HillSlices x = new HillSlices();
        DUE.is("spring, at first", x.spring(3, 1, 5, 0), 0);
        x.wedding(4, 0);
        DUE.is("spring, behind a WEDDING", x.spring(3, 1, 5, 0), 4);
        Due.will(x, "e:e8f9f7");
        DUE.is("spring, behind a WILL", x.spring(3, 1, 5, 0), 5);
        DUE.is("years of e", x.spring(3, 1, 5, 14), 5);
        DUE.is("first year of f", x.spring(3, 1, 5, 25), 5);
        Due.slices(x, "b9b9b6");
        DUE.is("spring, behind SLICES", x.spring(3, 1, 5, 0), 1);
        DUE.is("years of a", x.spring(3, 1, 999, 10), 0);
    }

    private static void howManyYears() {
        HillSlices x = Due.hill("a9b9c6");
        // Year 0 and the last one count.
        DUE.is("years of a, 0 to 0", x.spring(0, 1, 0, 10), 1);
        DUE.is("years of a, 0 to 8", x.spring(0, 1, 8, 10), 9);
        DUE.is("years of a, 0 to 9", x.spring(0, 1, 9, 10), 9);
        DUE.is("years of b, 0 to 8", x.spring(0, 1, 8, 11), 0);
        DUE.is("years of b, 0 to 9", x.spring(0, 1, 9, 11), 1);
        // And round again.
        DUE.is("years of a, 0 to 23", x.spring(0, 1, 23, 10), 9);
        DUE.is("years of a, 0 to 24", x.spring(0, 1, 24, 10), 10);
        DUE.is("years of a, all", x.spring(0, 0, 999, 10), 1000);
        DUE.is("years of f, none", x.spring(0, 1, 999, 15), 0);
    }

    private static void firstYear() {
        HillSlices x = Due.hill("a9b9c6");
        DUE.is("first year of a, at once", x.spring(0, 1, 0, 20), 0);
        DUE.is("first year of a, at once", x.spring(0, 1, 999, 20), 0);
        DUE.is("first year of b", x.spring(0, 1, 999, 21), 9);
        DUE.is("first year of c", x.spring(0, 1, 999, 22), 18);
        DUE.is("first year of c, back past 0", x.spring(0, 23, 999, 22), 1);
        DUE.is("first year of a, on past 23", x.spring(23, 1, 999, 20), 1);
    }

    // ---- Terms: BOUNDS, WED BEST, NARROW

    private static void testsOfBounds() {
        String terms = "Terms";
        DUE.sentence(terms, "BOUNDS: places at which a SECTOR and the next one are not of one HEIR.",
            FencesSentencesTest::boundsRound);
        DUE.sentence(terms, "the two HEIRS (both have SECTORS)", FencesSentencesTest::bothHaveSectors);
        DUE.sentence(terms, "by whose WEDDING there are fewest BOUNDS", FencesSentencesTest::fewestBounds);
        DUE.sentence(terms, "of several the first by the lesser one, then the other.",
            FencesSentencesTest::firstByTheLesserOne);
        DUE.sentence(terms, "NARROW: the fewest SECTORS side by side that some HEIR has in one piece.",
            FencesSentencesTest::narrowestPieces);
    }

    private static void boundsAre(int what, String slices, int want) {
        DUE.is("bounds(" + what + ") of " + slices, Due.hill(slices).bounds(what), want);
    }

    private static void boundsRound() {
        boundsAre(0, "a9a9a6", 0);
        boundsAre(0, "f9f9f6", 0);
        boundsAre(0, "a1b9b9b5", 2);
        boundsAre(0, "b9b9b5a1", 2);
        boundsAre(0, "b5a1b9b9", 2);
        boundsAre(0, "a9b9a6", 2);
        boundsAre(0, "a9b9c6", 3);
        boundsAre(0, EACH_ITS_OWN, 24);
        boundsAre(0, "a1b9b9b4c1", 3);
    }

    private static void bothHaveSectors() {
        boundsAre(1, "a9a9a6", NONE);
        boundsAre(1, "f9f9f6", NONE);
        boundsAre(1, "e9f9f6", 45);
        boundsAre(1, "a1f9f9f5", 5);
        HillSlices x = Due.hill("a9b9b6");
        DUE.is("bounds(1)", x.bounds(1), 1);
        x.wedding(5, 0);
        DUE.is("bounds(1), a has none any more", x.bounds(1), 15);
        x.wedding(5, 1);
        DUE.is("bounds(1), f has all", x.bounds(1), NONE);
    }

    private static void fewestBounds() {
        // c and d are side by side four times, all others less often.
        boundsAre(1, "a9b8c1d1c1d1c1b2", 23);
        // e and f are side by side at 23 and 0, and in the middle.
        boundsAre(1, "e4a4b1f4e4c6f1", 45);
        // The one has nothing beside the other's but across 23 and 0.
        boundsAre(1, "d1a1b1a1b1c9c9c1", 1);
        boundsAre(1, "e1a9b9f1e2c1f1", 45);
    }

    private static void firstByTheLesserOne() {
        boundsAre(1, "c9b9a6", 1);
        boundsAre(1, "f9e9d6", 34);
        // a with c and a with d alike, and b with c and b with d: the first is 0 and 2.
        boundsAre(1, "a6c6b6d6", 2);
        // b with c ahead of b with d and c with d; a is beside b and d.
        boundsAre(1, "b2c2b2c2b2d2b2d2b2a6", 12);
        boundsAre(1, EACH_ITS_OWN, 1);
    }

    private static void narrowestPieces() {
        boundsAre(2, "a9a9a6", 24);
        boundsAre(2, "f9f9f6", 24);
        boundsAre(2, "a9a3b9b3", 12);
        boundsAre(2, "a1b9b9b5", 1);
        boundsAre(2, "b9b9b5a1", 1);
        boundsAre(2, "b1a1b9b9b4", 1);
        boundsAre(2, "b9b9b4a1b1", 1);
        boundsAre(2, EACH_ITS_OWN, 1);
        // A piece that goes on past 23.
        boundsAre(2, "a1b9b9b4a1", 2);
        boundsAre(2, "a3b9b9a3", 6);
        boundsAre(2, "a1b9b9a5", 6);
        // The narrowest piece, not the fewest SECTORS of one HEIR.
        boundsAre(2, "a2b5a2c5a2d8", 2);
        boundsAre(2, "a9b4a9b2", 2);
        boundsAre(2, "a2a2b3c8c9", 3);
    }

    // ---- Promises 23 to 25

    private static void testsOfPromises23To25() {
        DUE.sentence("Promise 23", "FENCE.", FencesSentencesTest::fenceIs);
        DUE.sentence("Promise 23", "UNKNOWN.", FencesSentencesTest::fenceUnknown);
        DUE.sentence("Promise 24", "whose (what = 0), how many years an HEIR has it (10 and the HEIR)",
            FencesSentencesTest::springAnswers);
        DUE.sentence("Promise 24", "its first year (20 and the HEIR; NONE: not by that year).",
            FencesSentencesTest::notByThatYear);
        DUE.sentence("Promise 24", "UNKNOWN: the SECTOR", FencesSentencesTest::springUnknown);
        DUE.sentence("Promise 24", "OUTSIDE.", FencesSentencesTest::springOutside);
        DUE.sentence("Promise 25", "BOUNDS (what = 0)", FencesSentencesTest::boundsAnswer);
        DUE.sentence("Promise 25", "WED BEST (1: 10 times the lesser one and the other; NONE)",
            FencesSentencesTest::wedBestAnswer);
        DUE.sentence("Promise 25", "NARROW (2).", FencesSentencesTest::narrowAnswer);
        DUE.sentence("Promise 25", "OUTSIDE.", FencesSentencesTest::boundsOutside);
    }

    private static void fenceIs() {
        HillSlices x = Due.hill("f1a9a9a5", ROCK, ROCK, ROCK, ROCK, "m1v9v9v5");
        DUE.is("fence(5)", x.fence(5), 6);
        DUE.is("fence(0), none", x.fence(0), 0);
        // Round each of twelve meadows: shorter than all round above and below.
        HillSlices y = Due.hill(EACH_ITS_OWN, "v9v9v6", "v9v9v6", "m9m9m6", "v9v9v6", "v9v9v6");
        DUE.is("fence(0), vines on all sides", y.fence(0), 12 * (2 + 2 + 4 + 3));
    }

    private static void fenceUnknown() {
        HillSlices x = new HillSlices();
        for (int heir : NO_HEIR) {
            DUE.is("fence " + heir, x.fence(heir), UNKNOWN);
        }
        DUE.is("fence(5)", x.fence(5), 0);
    }

    private static void springAnswers() {
        HillSlices x = Due.hill("a4b4c4d4e4f4");
        for (int heir = 0; heir < 6; heir++) {
            DUE.is("whose", x.spring(4 * heir, 0, 0, 0), heir);
            DUE.is("years of " + heir, x.spring(0, 1, 23, 10 + heir), 4);
            DUE.is("years of " + heir, x.spring(4 * heir, 0, 999, 10 + heir), 1000);
        }
    }

    private static void notByThatYear() {
        HillSlices x = Due.hill("a4b4c4d4e4f4");
        for (int heir = 0; heir < 6; heir++) {
            DUE.is("first year of " + heir, x.spring(0, 1, 999, 20 + heir), 4 * heir);
            DUE.is("first year of " + heir + ", in that year", x.spring(0, 1, 4 * heir, 20 + heir), 4 * heir);
        }
        for (int heir = 1; heir < 6; heir++) {
            DUE.is("first year of " + heir + ", a year more", x.spring(0, 1, 4 * heir - 1, 20 + heir), NONE);
            DUE.is("first year of " + heir + ", never", x.spring(0, 0, 999, 20 + heir), NONE);
        }
        // The last first year that there can be.
        HillSlices y = Due.hill("f1a9a9a5");
        DUE.is("first year of f", y.spring(23, 23, 999, 25), 23);
        DUE.is("first year of f", y.spring(23, 23, 22, 25), NONE);
    }

    private static void springUnknown() {
        HillSlices x = new HillSlices();
        for (int sector : NO_SECTOR) {
            DUE.is("spring of " + sector, x.spring(sector, 0, 0, 0), UNKNOWN);
            DUE.is("spring of " + sector, x.spring(sector, 0, 0, 10), UNKNOWN);
            DUE.is("spring of " + sector, x.spring(sector, 0, 0, 20), UNKNOWN);
        }
        DUE.is("spring(23, 0, 0, 0)", x.spring(23, 0, 0, 0), 0);
    }

    private static void springOutside() {
        HillSlices x = new HillSlices();
        int[] goes = {-1, 24, MIN, MAX};
        int[] years = {-1, 1000, MIN, MAX};
        // An HEIR that there is not makes what another number.
        int[] whats = {-1, 1, 6, 9, 16, 19, 26, 30, MIN, MAX};
        for (int wrong : goes) {
            DUE.is("spring going " + wrong, x.spring(0, wrong, 0, 0), OUTSIDE);
        }
        for (int wrong : years) {
            DUE.is("spring, year " + wrong, x.spring(0, 0, wrong, 0), OUTSIDE);
        }
        for (int wrong : whats) {
            DUE.is("spring, what " + wrong, x.spring(0, 0, 0, wrong), OUTSIDE);
        }
        DUE.is("spring(0, 23, 999, 0)", x.spring(0, 23, 999, 0), 0);
        DUE.is("spring(0, 0, 0, 15)", x.spring(0, 0, 0, 15), 0);
        DUE.is("spring(0, 0, 0, 25)", x.spring(0, 0, 0, 25), NONE);
    }

    private static void boundsAnswer() {
        boundsAre(0, "a9a9a6", 0);
        boundsAre(0, EACH_ITS_OWN, 24);
        boundsAre(0, "a9b9c6", 3);
    }

    private static void wedBestAnswer() {
        boundsAre(1, "a9b9b6", 1);
        boundsAre(1, "b9a9a6", 1);
        boundsAre(1, "f9e9e6", 45);
        boundsAre(1, "d9d9d6", NONE);
    }

    private static void narrowAnswer() {
        boundsAre(2, "a9b9c6", 6);
        boundsAre(2, "d9d9d6", 24);
        boundsAre(2, EACH_ITS_OWN, 1);
    }

    private static void boundsOutside() {
        HillSlices x = new HillSlices();
        int[] wrong = {-1, 3, MIN, MAX};
        for (int what : wrong) {
            DUE.is("bounds " + what, x.bounds(what), OUTSIDE);
        }
    }

    // ---- Promises 26 to 28

    private static void testsOfPromises26To28() {
        DUE.sentence("Promise 26", "All but the PAD is kept in an IMAGE (0, 1): 1.", FencesSentencesTest::allButThePad);
        DUE.sentence("Promise 26", "OUTSIDE.", FencesSentencesTest::imageOutside);
        DUE.sentence("Promise 27", "It is as it was when it was kept: 1.", FencesSentencesTest::asItWasWhenKept);
        DUE.sentence("Promise 27", "OUTSIDE", FencesSentencesTest::restoreOutside);
        DUE.sentence("Promise 27", "STATE: it was not.", FencesSentencesTest::itWasNotKept);
        DUE.sentence("Promise 28", "0 signs, 1 GENERATIONS, 2 TOLL", FencesSentencesTest::toldNumbers);
        DUE.sentence("Promise 28", "10 to 15 how many SECTORS HEIRS have", FencesSentencesTest::toldSectors);
        DUE.sentence("Promise 28", "20 to 25 RIGHTS that HEIRS gave, as bits", FencesSentencesTest::toldRights);
        DUE.sentence("Promise 28", "100 and 5 times an HEIR and 0 to 4: WORTHS of v, w, m, r, s.",
            FencesSentencesTest::toldWorths);
        DUE.sentence("Promise 28", "OUTSIDE.", FencesSentencesTest::toldOutside);
    }

    private static void allButThePad() {
        for (int n = 0; n < 2; n++) {
            HillSlices x = Due.hill("a1b9b9b4c1", "w1v9v9v4m1", ROCK, ROCK, ROCK, "s1v9v9v4w1");
            x.wedding(5, 2);
            x.worth(0, 'v', 98);
            x.worth(5, 's', 99);
            x.toll(97);
            x.right(0, 5, true);
            x.right(5, 0, true);
            Due.say(x, "v9");
            DUE.is("image " + n, x.image(n), 1);
            Due.say(x, "w9m6");
            x.ring(0);
            Due.ring(x, 4, ROCK);
            Due.slices(x, "d9d9d6");
            x.worth(0, 'v', 1);
            x.worth(5, 's', 2);
            x.toll(3);
            x.right(0, 5, false);
            x.right(5, 0, false);
            Due.say(x, "x");
            DUE.is("restore " + n, x.restore(n), 1);
            DUE.is("cell(0, 0)", x.cell(0, 0), 'w');
            DUE.is("cell(0, 23)", x.cell(0, 23), 'm');
            DUE.is("cell(4, 0)", x.cell(4, 0), 's');
            DUE.is("cell(4, 23)", x.cell(4, 23), 'w');
            DUE.is("told(1)", x.told(1), 1);
            DUE.is("was(23, 0)", x.was(23, 0), 2);
            DUE.is("was(23, 1)", x.was(23, 1), 5);
            DUE.is("has(0)", x.has(0), 1);
            DUE.is("has(5)", x.has(5), 1 << 23);
            DUE.is("told(100)", x.told(100), 98);
            DUE.is("told(129)", x.told(129), 99);
            DUE.is("told(2)", x.told(2), 97);
            DUE.is("told(20)", x.told(20), 32);
            DUE.is("told(25)", x.told(25), 1);
            // The PAD is as it was ahead of restore.
            DUE.is("told(0)", x.told(0), 1);
        }
    }

    private static void imageOutside() {
        HillSlices x = new HillSlices();
        int[] wrong = {-1, 2, MIN, MAX};
        for (int n : wrong) {
            DUE.is("image " + n, x.image(n), OUTSIDE);
        }
        DUE.is("image(0)", x.image(0), 1);
        DUE.is("image(1)", x.image(1), 1);
    }

    private static void asItWasWhenKept() {
        HillSlices x = new HillSlices();
        x.toll(10);
        DUE.is("image(0)", x.image(0), 1);
        x.toll(11);
        DUE.is("image(1)", x.image(1), 1);
        x.toll(12);
        for (int round = 0; round < 2; round++) {
            DUE.is("restore(0)", x.restore(0), 1);
            DUE.is("told(2)", x.told(2), 10);
            x.toll(13);
            DUE.is("restore(1)", x.restore(1), 1);
            DUE.is("told(2)", x.told(2), 11);
            x.toll(14);
        }
        // Kept once more, it is as it was then.
        x.image(0);
        x.toll(15);
        x.restore(0);
        DUE.is("told(2)", x.told(2), 14);
        // All of 20 GENERATIONS, and of none.
        HillSlices y = new HillSlices();
        y.image(1);
        for (int generation = 1; generation <= 20; generation++) {
            y.wedding(generation % 6, (generation + 5) % 6);
        }
        y.image(0);
        y.restore(1);
        DUE.is("told(1)", y.told(1), 0);
        DUE.is("was(0, 1)", y.was(0, 1), OUTSIDE);
        for (int generation = 1; generation <= 20; generation++) {
            Due.will(y, "f:");
        }
        y.restore(0);
        for (int generation = 0; generation <= 20; generation++) {
            DUE.is("was(23, " + generation + ")", y.was(23, generation), generation % 6);
        }
    }

    private static void restoreOutside() {
        HillSlices x = new HillSlices();
        x.image(0);
        x.image(1);
        int[] wrong = {-1, 2, MIN, MAX};
        for (int n : wrong) {
            DUE.is("restore " + n, x.restore(n), OUTSIDE);
        }
        DUE.is("restore(0)", x.restore(0), 1);
        DUE.is("restore(1)", x.restore(1), 1);
    }

    private static void itWasNotKept() {
        HillSlices x = new HillSlices();
        DUE.is("restore(0)", x.restore(0), STATE);
        DUE.is("restore(1)", x.restore(1), STATE);
        x.image(1);
        DUE.is("restore(0), only 1 is kept", x.restore(0), STATE);
        DUE.is("restore(1)", x.restore(1), 1);
        DUE.is("restore(1), again", x.restore(1), 1);
        HillSlices y = new HillSlices();
        y.image(0);
        DUE.is("restore(1), only 0 is kept", y.restore(1), STATE);
        DUE.is("restore(0)", y.restore(0), 1);
    }

    private static void toldNumbers() {
        HillSlices x = new HillSlices();
        DUE.is("told(0), at first", x.told(0), 0);
        DUE.is("told(1), at first", x.told(1), 0);
        DUE.is("told(2), at first", x.told(2), 5);
        for (int generation = 1; generation <= 20; generation++) {
            x.wedding(1, 0);
        }
        x.toll(99);
        Due.say(x, "x".repeat(60));
        DUE.is("told(0), the most", x.told(0), 60);
        DUE.is("told(1), the most", x.told(1), 20);
        DUE.is("told(2), the most", x.told(2), 99);
    }

    private static void toldSectors() {
        HillSlices x = new HillSlices();
        DUE.is("told(10), all", x.told(10), 24);
        DUE.is("told(15), none", x.told(15), 0);
        Due.slices(x, "f1e2d3c4b5a8f1");
        int[] sectors = {8, 5, 4, 3, 2, 2};
        for (int heir = 0; heir < 6; heir++) {
            DUE.is("told " + (10 + heir), x.told(10 + heir), sectors[heir]);
        }
    }

    private static void toldRights() {
        HillSlices x = new HillSlices();
        for (int heir = 0; heir < 6; heir++) {
            DUE.is("told, none", x.told(20 + heir), 0);
        }
        for (int heir = 0; heir < 6; heir++) {
            for (int to = 0; to < 6; to++) {
                x.right(heir, to, true);
            }
            DUE.is("told, all others", x.told(20 + heir), 63 - (1 << heir));
        }
        x.right(0, 5, false);
        DUE.is("told(20)", x.told(20), 30);
        DUE.is("told(25)", x.told(25), 31);
    }

    private static void toldWorths() {
        HillSlices x = new HillSlices();
        int[] first = {10, 4, 3, 0, 1};
        for (int i = 0; i < 30; i++) {
            DUE.is("told " + (100 + i), x.told(100 + i), first[i % 5]);
            x.worth(i / 5, "vwmrs".charAt(i % 5), 50 + i);
        }
        for (int i = 0; i < 30; i++) {
            DUE.is("told " + (100 + i), x.told(100 + i), 50 + i);
        }
    }

    private static void toldOutside() {
        HillSlices x = new HillSlices();
        for (int what = -5; what < 140; what++) {
            boolean some = what >= 0 && what < 3 || what >= 10 && what < 16 || what >= 20 && what < 26
                || what >= 100 && what < 130;
            DUE.is("told " + what + " is OUTSIDE", x.told(what) == OUTSIDE ? 1 : 0, some ? 0 : 1);
        }
        DUE.is("told, the least", x.told(MIN), OUTSIDE);
        DUE.is("told, the greatest", x.told(MAX), OUTSIDE);
        DUE.is("has(0)", x.has(0), ALL);
    }
}
