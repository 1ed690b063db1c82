/** Section 3 of the terms, and promises 17 to 22: a test for each sentence that names a boundary case. */
public final class WaysSentencesTest {
    private static final int UNKNOWN = -1, OUTSIDE = -2, STATE = -3, NONE = -6;
    private static final int MIN = Integer.MIN_VALUE, MAX = Integer.MAX_VALUE;
    private static final int[] NO_RING = {-1, 5, MIN, MAX}, NO_SECTOR = {-1, 24, MIN, MAX}, NO_HEIR = {-1, 6, MIN, MAX};
    private static final String ROCK = "r9r9r6", VINES = "v9v9v6", WOOD = "w9w9w6", SNOW = "s9s9s6";
    private static final Due DUE = new Due("WaysSentencesTest");

    private WaysSentencesTest() {
    }

    public static void main(String[] args) {
        tests().end();
    }

    static Due tests() {
        testsOfWays();
        testsOfStones();
        testsOfAvalanches();
        testsOfPromises17To19();
        testsOfPromises20To22();
        return DUE;
    }

    // ---- Terms: WAYS

    private static void testsOfWays() {
        String terms = "Terms";
        DUE.sentence(terms, "round by it on the one side (SECTORS rising) or the other", WaysSentencesTest::onBothSides);
        DUE.sentence(terms, "(from a SECTOR to itself: none on both sides)", WaysSentencesTest::toItselfNone);
        DUE.sentence(terms, "each RING up or down costs 2 (RING 0 nothing)", WaysSentencesTest::upAndDownCosts2);
        DUE.sentence(terms, "each SECTOR on that it goes 6 less the RING", WaysSentencesTest::sectorOnCosts6LessTheRing);
        DUE.sentence(terms, "TOLL (0 to 99;", WaysSentencesTest::tollFrom0To99);
        DUE.sentence(terms, "5 at first)", WaysSentencesTest::toll5AtFirst);
        DUE.sentence(terms, "for each SECTOR that it comes into by that (not where it begins)",
            WaysSentencesTest::notWhereItBegins);
        DUE.sentence(terms, "whose HEIR is not that one itself", WaysSentencesTest::notForItself);
        DUE.sentence(terms, "nor has given it a RIGHT", WaysSentencesTest::notWithARight);
        DUE.sentence(terms, "The least cost; of several the least RING, then rising.",
            WaysSentencesTest::leastCostThenRingThenRising);
    }

    private static void wayIs(HillSlices x, int heir, int from, int to, int... want) {
        String call = "way(" + heir + ", " + from + ", " + to + ", ";
        for (int what = 0; what < 3; what++) {
            DUE.is(call + what + ")", x.way(heir, from, to, what), want[what]);
        }
    }

    private static void onBothSides() {
        HillSlices x = new HillSlices();
        wayIs(x, 0, 7, 8, 6, 0, 1);
        wayIs(x, 0, 8, 7, 6, 0, 0);
        wayIs(x, 0, 23, 0, 6, 0, 1);
        wayIs(x, 0, 0, 23, 6, 0, 0);
        wayIs(x, 0, 20, 4, 32, 4, 1);
        wayIs(x, 0, 4, 20, 32, 4, 0);
        // Eleven, twelve and thirteen SECTORS on.
        wayIs(x, 0, 0, 11, 38, 4, 1);
        wayIs(x, 0, 0, 12, 40, 4, 1);
        wayIs(x, 0, 0, 13, 38, 4, 0);
    }

    private static void toItselfNone() {
        HillSlices x = Due.hill("b9b9b6");
        x.toll(99);
        for (int sector = 0; sector < 24; sector++) {
            wayIs(x, 0, sector, sector, 0, 0, 1);
        }
        wayIs(x, 1, 23, 23, 0, 0, 1);
    }

    private static void upAndDownCosts2() {
        HillSlices x = new HillSlices();
        // By RING 0 to SECTORS beside, by RING 4 to those far off: twice 4 times 2, and 2 for each SECTOR.
        wayIs(x, 0, 0, 1, 6, 0, 1);
        wayIs(x, 0, 0, 3, 18, 0, 1);
        wayIs(x, 0, 0, 5, 16 + 10, 4, 1);
        wayIs(x, 0, 0, 12, 16 + 24, 4, 1);
    }

    private static void sectorOnCosts6LessTheRing() {
        HillSlices x = new HillSlices();
        for (int steps = 1; steps <= 4; steps++) {
            wayIs(x, 0, 0, steps, 6 * steps, 0, 1);
        }
        for (int steps = 5; steps <= 12; steps++) {
            wayIs(x, 0, 0, steps, 16 + 2 * steps, 4, 1);
        }
    }

    private static void tollFrom0To99() {
        HillSlices x = Due.hill("b9b9b6");
        DUE.is("toll(0)", x.toll(0), 5);
        wayIs(x, 0, 0, 1, 6, 0, 1);
        DUE.is("toll(99)", x.toll(99), 0);
        wayIs(x, 0, 0, 1, 105, 0, 1);
        // The dearest of all ways: twelve TOLLS on both sides.
        wayIs(x, 0, 0, 12, 40 + 12 * 99, 4, 1);
        int[] wrong = {-1, 100, MIN, MAX};
        for (int v : wrong) {
            DUE.is("toll " + v, x.toll(v), OUTSIDE);
        }
        DUE.is("told(2)", x.told(2), 99);
    }

    private static void toll5AtFirst() {
        HillSlices x = Due.hill("b9b9b6");
        DUE.is("told(2)", x.told(2), 5);
        wayIs(x, 0, 0, 1, 11, 0, 1);
        DUE.is("toll(7)", x.toll(7), 5);
    }

    private static void notWhereItBegins() {
        HillSlices x = Due.hill("a9b9a6");
        // It begins in b's SECTOR and ends in a's, or the other way round.
        wayIs(x, 0, 9, 8, 6, 0, 0);
        wayIs(x, 0, 8, 9, 11, 0, 1);
        wayIs(x, 0, 17, 18, 6, 0, 1);
        wayIs(x, 0, 18, 17, 11, 0, 0);
        // Through one of b's to another one: both.
        wayIs(x, 0, 8, 10, 22, 0, 1);
        wayIs(x, 0, 10, 8, 17, 0, 0);
        // Where it ends and begins is one SECTOR.
        wayIs(x, 0, 9, 9, 0, 0, 1);
    }

    private static void notForItself() {
        HillSlices x = Due.hill("a9b9c6");
        wayIs(x, 0, 0, 1, 6, 0, 1);
        wayIs(x, 1, 0, 1, 11, 0, 1);
        wayIs(x, 1, 9, 10, 6, 0, 1);
        wayIs(x, 2, 23, 22, 6, 0, 0);
        wayIs(x, 5, 23, 22, 11, 0, 0);
        // What it has behind a WEDDING is its own.
        x.wedding(5, 2);
        wayIs(x, 5, 23, 22, 6, 0, 0);
        wayIs(x, 2, 23, 22, 11, 0, 0);
    }

    private static void notWithARight() {
        HillSlices x = Due.hill("a9b9f6");
        // That a has given a RIGHT to b is no help to a.
        x.right(0, 1, true);
        wayIs(x, 0, 8, 9, 11, 0, 1);
        wayIs(x, 1, 9, 8, 6, 0, 0);
        x.right(1, 0, true);
        wayIs(x, 0, 8, 9, 6, 0, 1);
        wayIs(x, 5, 8, 9, 11, 0, 1);
        x.right(1, 0, false);
        wayIs(x, 0, 8, 9, 11, 0, 1);
        x.right(5, 0, true);
        wayIs(x, 0, 0, 23, 6, 0, 0);
        // The last HEIR, who gets one.
        x.right(0, 5, true);
        wayIs(x, 5, 23, 0, 6, 0, 1);
    }

    private static void leastCostThenRingThenRising() {
        HillSlices x = new HillSlices();
        // Four SECTORS on cost 24 by each RING; twelve are as far on both sides.
        wayIs(x, 0, 0, 4, 24, 0, 1);
        wayIs(x, 0, 4, 0, 24, 0, 0);
        wayIs(x, 0, 0, 12, 40, 4, 1);
        wayIs(x, 0, 12, 0, 40, 4, 1);
        // Rising by RING 4 and falling by RING 0 both cost 58: the least RING, not the rising one.
        HillSlices y = Due.hill("a1b2a9a9a3");
        y.toll(20);
        wayIs(y, 0, 3, 0, 58, 0, 0);
        y.toll(21);
        wayIs(y, 0, 3, 0, 58, 4, 1);
        y.toll(19);
        wayIs(y, 0, 3, 0, 56, 0, 0);
        // One TOLL more on the one side, and the other one is the less dear.
        HillSlices z = Due.hill("a1b1a9a9a4");
        z.toll(0);
        wayIs(z, 0, 0, 12, 40, 4, 1);
        z.toll(1);
        wayIs(z, 0, 0, 12, 40, 4, 0);
    }

    // ---- Terms: STONES

    private static void testsOfStones() {
        String terms = "Terms";
        DUE.sentence(terms, "it is in that CELL; in w it stops", WaysSentencesTest::stopsInWood);
        DUE.sentence(terms, "from r it goes one SECTOR on (rising) as it goes down", WaysSentencesTest::oneOnFromRock);
        DUE.sentence(terms, "else it goes down straight", WaysSentencesTest::elseStraight);
        DUE.sentence(terms, "below RING 0 it is gone", WaysSentencesTest::goneBelowRing0);
        DUE.sentence(terms,
            "HIT are HEIRS of CELLS below that in which it began, through which it comes, or in which it stops.",
            WaysSentencesTest::hitBelowWhereItBegan);
    }

    private static void stoneIs(HillSlices x, int ring, int sector, int hit, int end) {
        String call = "stone(" + ring + ", " + sector + ", ";
        DUE.is(call + "0)", x.stone(ring, sector, 0), hit);
        DUE.is(call + "1)", x.stone(ring, sector, 1), end);
    }

    private static void stopsInWood() {
        HillSlices x = Due.hill("a9b9c6", VINES, "v9v9v5w1", "w1v9v9v5", VINES, VINES);
        // In the CELL in which it is let go, in one below it, and not in one beside.
        stoneIs(x, 2, 0, 0, 0);
        stoneIs(x, 4, 0, 1, 0);
        stoneIs(x, 1, 23, 0, 23);
        stoneIs(x, 4, 23, 4, 23);
        stoneIs(x, 1, 0, 1, NONE);
        stoneIs(x, 4, 1, 1, NONE);
        HillSlices y = Due.hill("a9b9c6", WOOD, ROCK, ROCK, ROCK, WOOD);
        // The highest and the lowest one.
        stoneIs(y, 4, 5, 0, 5);
        stoneIs(y, 0, 5, 0, 5);
        stoneIs(y, 3, 23, 1, 2);
    }

    private static void oneOnFromRock() {
        HillSlices x = Due.hill("a1b1c1d1e1f9f9f1", ROCK, ROCK, ROCK, ROCK, ROCK);
        stoneIs(x, 1, 0, 2, NONE);
        stoneIs(x, 4, 0, 2 | 4 | 8 | 16, NONE);
        // From 23 to 0 as well.
        stoneIs(x, 1, 23, 1, NONE);
        stoneIs(x, 4, 23, 1 | 2 | 4 | 8, NONE);
        Due.ring(x, 0, WOOD);
        stoneIs(x, 1, 23, 1, 0);
        stoneIs(x, 4, 20, 32 | 1, 0);
        stoneIs(x, 4, 19, 32, 23);
    }

    private static void elseStraight() {
        String[] sorts = {VINES, "m9m9m6", SNOW};
        for (String sort : sorts) {
            HillSlices x = Due.hill("a1b9b9b4c1", WOOD, sort, sort, sort, sort);
            stoneIs(x, 4, 0, 1, 0);
            stoneIs(x, 1, 0, 1, 0);
            stoneIs(x, 4, 23, 4, 23);
            stoneIs(x, 4, 22, 2, 22);
        }
    }

    private static void goneBelowRing0() {
        HillSlices x = Due.hill("a9b9c6");
        for (int ring = 0; ring < 5; ring++) {
            DUE.is("stone of ring " + ring, x.stone(ring, 0, 1), NONE);
        }
        // From rock at the foot, too: it comes to no other SECTOR.
        Due.ring(x, 0, ROCK);
        stoneIs(x, 0, 8, 0, NONE);
        stoneIs(x, 0, 23, 0, NONE);
        // Wood at the foot is not below it.
        Due.ring(x, 0, WOOD);
        stoneIs(x, 0, 8, 0, 8);
    }

    private static void hitBelowWhereItBegan() {
        HillSlices x = Due.hill("a1b1c1d1e1f9f9f1", ROCK, ROCK, ROCK, ROCK, ROCK);
        // Not whose the first CELL is; from RING 0 there is none below.
        stoneIs(x, 0, 0, 0, NONE);
        stoneIs(x, 2, 0, 2 | 4, NONE);
        // Through RINGS 2 and 1 to the wood in RING 0, in which it stops, and no farther.
        Due.ring(x, 0, WOOD);
        stoneIs(x, 3, 0, 2 | 4 | 8, 3);
        Due.ring(x, 2, WOOD);
        stoneIs(x, 3, 0, 2, 1);
        stoneIs(x, 4, 0, 2 | 4, 2);
        // Where it is let go in wood it comes to none below.
        stoneIs(x, 2, 0, 0, 0);
        // In the same HEIR's below.
        Due.ring(x, 1, VINES);
        stoneIs(x, 1, 0, 1, 0);
    }

    // ---- Terms: AVALANCHES, ROLLS

    private static void testsOfAvalanches() {
        String terms = "Terms";
        DUE.sentence(terms, "An AVALANCHE begins in a CELL of s", WaysSentencesTest::beginsInSnow);
        DUE.sentence(terms, "behind each RING down it has the SECTORS that it had and those beside them",
            WaysSentencesTest::thoseBesideThem);
        DUE.sentence(terms, "but of these only such whose CELL there is no w", WaysSentencesTest::onlyWhereThereIsNoWood);
        DUE.sentence(terms, "HIT likewise", WaysSentencesTest::avalancheHitBelow);
        DUE.sentence(terms, "HEIRS on whom one HEIR can let fall a STONE from some CELL of its own",
            WaysSentencesTest::rollsFromItsOwn);
        DUE.sentence(terms, "(itself not)", WaysSentencesTest::rollsNotOnItself);
    }

    private static void avalancheIs(HillSlices x, int ring, int sector, int hit, int cells) {
        String call = "avalanche(" + ring + ", " + sector + ", ";
        DUE.is(call + "0)", x.avalanche(ring, sector, 0), hit);
        DUE.is(call + "1)", x.avalanche(ring, sector, 1), cells);
    }

    private static void beginsInSnow() {
        HillSlices x = new HillSlices();
        Due.ring(x, 2, "v1w1m1r1s1v9v9v1");
        for (int sector = 0; sector < 4; sector++) {
            avalancheIs(x, 2, sector, STATE, STATE);
        }
        avalancheIs(x, 2, 4, 1, 9);
        avalancheIs(x, 2, 5, STATE, STATE);
        // At the foot and at the top, in the first and in the last SECTOR.
        HillSlices y = Due.hill("a9a9a6", "s1v9v9v4s1");
        avalancheIs(y, 0, 0, 0, 1);
        avalancheIs(y, 0, 23, 0, 1);
        avalancheIs(y, 0, 1, STATE, STATE);
        avalancheIs(y, 4, 0, 1, 25);
        avalancheIs(y, 4, 23, 1, 25);
    }

    private static void thoseBesideThem() {
        HillSlices x = Due.hill("a1b1c1d9d7e1f3b1", SNOW, SNOW, SNOW, SNOW, SNOW);
        int[] cells = {1, 4, 9, 16, 25};
        for (int ring = 0; ring < 5; ring++) {
            DUE.is("avalanche of ring " + ring, x.avalanche(ring, 10, 1), cells[ring]);
        }
        // One SECTOR more on each side in each RING: at first 23, 0, 1, at last 20 to 4.
        avalancheIs(x, 1, 0, 1 | 2, 4);
        avalancheIs(x, 2, 0, 1 | 2 | 4 | 32, 9);
        avalancheIs(x, 3, 0, 1 | 2 | 4 | 8 | 32, 16);
        avalancheIs(x, 4, 1, 1 | 2 | 4 | 8 | 32, 25);
        avalancheIs(x, 4, 23, 1 | 2 | 4 | 8 | 16 | 32, 25);
        avalancheIs(x, 1, 23, 32 | 2 | 1, 4);
    }

    private static void onlyWhereThereIsNoWood() {
        HillSlices x = Due.hill("a9b9c6", SNOW, SNOW, SNOW, WOOD, SNOW);
        // Wood all round: it ends there.
        avalancheIs(x, 4, 0, 0, 1);
        // Wood straight below, or beside on one side, or on the other.
        Due.ring(x, 3, "w1s9s9s5");
        avalancheIs(x, 4, 0, 1 | 4, 1 + 2 + 5 + 7 + 9);
        avalancheIs(x, 4, 1, 1 | 4, 1 + 2 + 4 + 6 + 8);
        avalancheIs(x, 4, 23, 1 | 4, 1 + 2 + 4 + 6 + 8);
        // One SECTOR is left, and it is as wide as ever below that RING.
        Due.ring(x, 3, "w9w2s1w9w3");
        avalancheIs(x, 4, 11, 2 | 1, 1 + 1 + 3 + 5 + 7);
        avalancheIs(x, 4, 10, 2 | 1, 1 + 1 + 3 + 5 + 7);
        avalancheIs(x, 4, 9, 0, 1);
        // Wood in the last RING alone.
        Due.ring(x, 3, SNOW);
        Due.ring(x, 0, WOOD);
        avalancheIs(x, 4, 11, 2 | 1, 16);
        avalancheIs(x, 1, 11, 0, 1);
    }

    private static void avalancheHitBelow() {
        // Not whose the CELL is in which it began, but for one below.
        HillSlices x = Due.hill("a1b1c9c9c4", "s1w1s9s9s4", SNOW, SNOW, SNOW, SNOW);
        avalancheIs(x, 0, 0, 0, 1);
        avalancheIs(x, 1, 1, 1 | 4, 3);
        Due.ring(x, 0, "w1s9s9s5");
        avalancheIs(x, 1, 1, 2 | 4, 3);
        // Not whose the CELLS of wood are.
        Due.ring(x, 0, "w2s9s9s4");
        avalancheIs(x, 1, 0, 4, 2);
        avalancheIs(x, 1, 1, 4, 2);
        // Also what is hit high above alone, and in RING 0 alone.
        Due.ring(x, 0, WOOD);
        avalancheIs(x, 2, 0, 1 | 2 | 4, 4);
        HillSlices y = Due.hill("a3b9b9a3", SNOW, SNOW, SNOW, SNOW, SNOW);
        avalancheIs(y, 2, 0, 1, 9);
        avalancheIs(y, 3, 0, 1 | 2, 16);
    }

    private static void rollsFromItsOwn() {
        HillSlices x = Due.hill("a1b1c1d1e9e9f2");
        // RING 3 alone is of rock: on the next one, from 23 to 0 as well.
        int[] next = {2, 4, 8, 16, 32, 1};
        for (int heir = 0; heir < 6; heir++) {
            DUE.is("rolls " + heir, x.rolls(heir), next[heir]);
        }
        // With rock all over it comes four SECTORS on, and from RING 0 to none.
        for (int ring = 0; ring < 5; ring++) {
            Due.ring(x, ring, ROCK);
        }
        int[] four = {2 | 4 | 8 | 16, 4 | 8 | 16, 8 | 16, 16, 32 | 1 | 2, 1 | 2 | 4 | 8};
        for (int heir = 0; heir < 6; heir++) {
            DUE.is("rolls " + heir, x.rolls(heir), four[heir]);
        }
        // Rock at the foot alone lets none come to another one.
        for (int ring = 1; ring < 5; ring++) {
            Due.ring(x, ring, VINES);
        }
        for (int heir = 0; heir < 6; heir++) {
            DUE.is("rolls " + heir, x.rolls(heir), 0);
        }
        // One that has no SECTORS has no CELL to let fall from.
        HillSlices y = new HillSlices();
        DUE.is("rolls(5), none", y.rolls(5), 0);
    }

    private static void rollsNotOnItself() {
        HillSlices x = new HillSlices();
        DUE.is("rolls(0), all its own", x.rolls(0), 0);
        Due.slices(x, "f9a9f6");
        DUE.is("rolls(5)", x.rolls(5), 1);
        DUE.is("rolls(0)", x.rolls(0), 32);
    }

    // ---- Promises 17 to 19

    private static void testsOfPromises17To19() {
        DUE.sentence("Promise 17", "TOLL: which it was.", WaysSentencesTest::whichTollItWas);
        DUE.sentence("Promise 17", "OUTSIDE.", WaysSentencesTest::tollOutside);
        DUE.sentence("Promise 18", "An HEIR gives another one a RIGHT or takes it back; whether it had it (1, 0).",
            WaysSentencesTest::whetherItHadIt);
        DUE.sentence("Promise 18", "UNKNOWN: also both are one.", WaysSentencesTest::rightUnknown);
        DUE.sentence("Promise 19", "the cost (what = 0), its RING (1), whether it goes rising (2: 1, 0).",
            WaysSentencesTest::wayAnswers);
        DUE.sentence("Promise 19", "UNKNOWN", WaysSentencesTest::wayUnknown);
        DUE.sentence("Promise 19", "OUTSIDE.", WaysSentencesTest::wayOutside);
    }

    private static void whichTollItWas() {
        HillSlices x = new HillSlices();
        DUE.is("toll, first", x.toll(0), 5);
        DUE.is("toll, the least", x.toll(99), 0);
        DUE.is("toll, the most", x.toll(99), 99);
        DUE.is("toll, as it was", x.toll(5), 99);
        DUE.is("told(2)", x.told(2), 5);
    }

    private static void tollOutside() {
        HillSlices x = new HillSlices();
        int[] wrong = {-1, 100, MIN, MAX};
        for (int v : wrong) {
            DUE.is("toll " + v, x.toll(v), OUTSIDE);
        }
        DUE.is("told(2)", x.told(2), 5);
    }

    private static void whetherItHadIt() {
        HillSlices x = new HillSlices();
        for (int to = 1; to < 6; to++) {
            DUE.is("right, taken back that was not given", x.right(0, to, false), 0);
            DUE.is("right, given", x.right(0, to, true), 0);
            DUE.is("right, given again", x.right(0, to, true), 1);
            DUE.is("right of the other one", x.right(to, 0, false), 0);
        }
        DUE.is("told(20)", x.told(20), 62);
        for (int to = 1; to < 6; to++) {
            DUE.is("right, taken back", x.right(0, to, false), 1);
            DUE.is("right, taken back again", x.right(0, to, false), 0);
            DUE.is("right, given back", x.right(to, 0, true), 0);
            DUE.is("told", x.told(20 + to), 1);
        }
        DUE.is("told(20)", x.told(20), 0);
    }

    private static void rightUnknown() {
        HillSlices x = new HillSlices();
        for (int heir : NO_HEIR) {
            DUE.is("right " + heir + " 0", x.right(heir, 0, true), UNKNOWN);
            DUE.is("right 0 " + heir, x.right(0, heir, false), UNKNOWN);
        }
        for (int heir = 0; heir < 6; heir++) {
            DUE.is("right of " + heir + " to itself", x.right(heir, heir, true), UNKNOWN);
            DUE.is("told", x.told(20 + heir), 0);
        }
        DUE.is("right(5, 0)", x.right(5, 0, true), 0);
        DUE.is("right(0, 5)", x.right(0, 5, true), 0);
    }

    private static void wayAnswers() {
        HillSlices x = new HillSlices();
        wayIs(x, 0, 0, 0, 0, 0, 1);
        wayIs(x, 5, 0, 12, 16 + 24 + 60, 4, 1);
        wayIs(x, 0, 12, 11, 6, 0, 0);
    }

    private static void wayUnknown() {
        HillSlices x = new HillSlices();
        for (int heir : NO_HEIR) {
            DUE.is("way of " + heir, x.way(heir, 0, 0, 0), UNKNOWN);
        }
        for (int sector : NO_SECTOR) {
            DUE.is("way from " + sector, x.way(0, sector, 0, 0), UNKNOWN);
            DUE.is("way to " + sector, x.way(0, 0, sector, 0), UNKNOWN);
        }
        DUE.is("way(5, 23, 23, 0)", x.way(5, 23, 23, 0), 0);
    }

    private static void wayOutside() {
        HillSlices x = new HillSlices();
        int[] wrong = {-1, 3, MIN, MAX};
        for (int what : wrong) {
            DUE.is("way, what " + what, x.way(0, 0, 0, what), OUTSIDE);
        }
        DUE.is("way(0, 0, 0, 2)", x.way(0, 0, 0, 2), 1);
    }

    // ---- Promises 20 to 22

    private static void testsOfPromises20To22() {
        DUE.sentence("Promise 20", "HIT, as bits (what = 0), the SECTOR in which it stops (1; NONE: it is gone).",
            WaysSentencesTest::stoneAnswers);
        DUE.sentence("Promise 20", "UNKNOWN", WaysSentencesTest::stoneUnknown);
        DUE.sentence("Promise 20", "OUTSIDE.", WaysSentencesTest::stoneOutside);
        DUE.sentence("Promise 21", "HIT, as bits (what = 0), how many CELLS it comes to (1; the first one, too).",
            WaysSentencesTest::avalancheAnswers);
        DUE.sentence("Promise 21", "UNKNOWN", WaysSentencesTest::avalancheUnknown);
        DUE.sentence("Promise 21", "OUTSIDE", WaysSentencesTest::avalancheOutside);
        DUE.sentence("Promise 21", "STATE: no snow is there.", WaysSentencesTest::avalancheState);
        DUE.sentence("Promise 22", "ROLLS.", WaysSentencesTest::rollsAsBits);
        DUE.sentence("Promise 22", "UNKNOWN.", WaysSentencesTest::rollsUnknown);
    }

    private static void stoneAnswers() {
        HillSlices x = Due.hill("f9f9f6");
        stoneIs(x, 4, 0, 32, NONE);
        stoneIs(x, 0, 0, 0, NONE);
        Due.ring(x, 0, WOOD);
        stoneIs(x, 4, 22, 32, 23);
        stoneIs(x, 4, 23, 32, 0);
    }

    private static void stoneUnknown() {
        HillSlices x = new HillSlices();
        for (int ring : NO_RING) {
            DUE.is("stone " + ring + " 0", x.stone(ring, 0, 0), UNKNOWN);
        }
        for (int sector : NO_SECTOR) {
            DUE.is("stone 0 " + sector, x.stone(0, sector, 1), UNKNOWN);
        }
        stoneIs(x, 4, 23, 1, NONE);
    }

    private static void stoneOutside() {
        HillSlices x = new HillSlices();
        int[] wrong = {-1, 2, MIN, MAX};
        for (int what : wrong) {
            DUE.is("stone, what " + what, x.stone(4, 23, what), OUTSIDE);
        }
        stoneIs(x, 4, 23, 1, NONE);
    }

    private static void avalancheAnswers() {
        HillSlices x = Due.hill("f9f9f6");
        // The first CELL counts, and is no hit.
        Due.ring(x, 0, SNOW);
        avalancheIs(x, 0, 23, 0, 1);
        Due.ring(x, 1, SNOW);
        avalancheIs(x, 1, 0, 32, 4);
        avalancheIs(x, 4, 0, 32, 25);
    }

    private static void avalancheUnknown() {
        HillSlices x = new HillSlices();
        for (int ring : NO_RING) {
            DUE.is("avalanche " + ring + " 0", x.avalanche(ring, 0, 0), UNKNOWN);
        }
        for (int sector : NO_SECTOR) {
            DUE.is("avalanche 4 " + sector, x.avalanche(4, sector, 1), UNKNOWN);
        }
        avalancheIs(x, 4, 23, 1, 25);
    }

    private static void avalancheOutside() {
        HillSlices x = new HillSlices();
        int[] wrong = {-1, 2, MIN, MAX};
        for (int what : wrong) {
            DUE.is("avalanche, what " + what, x.avalanche(4, 23, what), OUTSIDE);
        }
        avalancheIs(x, 4, 23, 1, 25);
    }

    private static void avalancheState() {
        HillSlices x = new HillSlices();
        for (int ring = 0; ring < 4; ring++) {
            avalancheIs(x, ring, 0, STATE, STATE);
        }
        avalancheIs(x, 4, 0, 1, 25);
        Due.ring(x, 4, "w1s9s9s5");
        avalancheIs(x, 4, 0, STATE, STATE);
        avalancheIs(x, 4, 1, 1, 25);
    }

    private static void rollsAsBits() {
        HillSlices x = Due.hill("a1b1c1d1e1f9f9f1", ROCK, ROCK, ROCK, ROCK, ROCK);
        DUE.is("rolls(0)", x.rolls(0), 2 | 4 | 8 | 16);
        DUE.is("rolls(1)", x.rolls(1), 4 | 8 | 16 | 32);
        DUE.is("rolls(5)", x.rolls(5), 1 | 2 | 4 | 8);
        DUE.is("rolls(4)", x.rolls(4), 32);
        DUE.is("rolls(3), none", new HillSlices().rolls(3), 0);
    }

    private static void rollsUnknown() {
        HillSlices x = new HillSlices();
        for (int heir : NO_HEIR) {
            DUE.is("rolls " + heir, x.rolls(heir), UNKNOWN);
        }
        DUE.is("rolls(5)", x.rolls(5), 0);
    }
}
