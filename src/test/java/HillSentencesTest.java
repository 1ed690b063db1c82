/** Section 1 of the terms, and promises 1 to 11: a test for each sentence that names a boundary case. */
public final class HillSentencesTest {
    private static final int UNKNOWN = -1, OUTSIDE = -2, FULL = -4, NO = -5, NONE = -6;
    private static final int MIN = Integer.MIN_VALUE, MAX = Integer.MAX_VALUE;
    private static final int ALL = 16777215;
    private static final int[] NO_RING = {-1, 5, MIN, MAX}, NO_SECTOR = {-1, 24, MIN, MAX}, NO_HEIR = {-1, 6, MIN, MAX};
    private static final Due DUE = new Due("HillSentencesTest");

    private HillSentencesTest() {
    }

    public static void main(String[] args) {
        tests().end();
    }

    static Due tests() {
        testsOfTheHill();
        testsOfTexts();
        testsOfGenerations();
        testsOfPromises1To6();
        testsOfPromises7To11();
        return DUE;
    }

    // ---- Terms: the hill

    private static void testsOfTheHill() {
        String terms = "Terms";
        DUE.sentence(terms, "RINGS 0 (the foot) to 4", HillSentencesTest::ringsFrom0To4);
        DUE.sentence(terms, "SECTORS 0 to 23 round it", HillSentencesTest::sectorsFrom0To23);
        DUE.sentence(terms, "(23 is beside 0)", HillSentencesTest::sector23IsBeside0);
        DUE.sentence(terms, "(at first RINGS 0, 1 v, 2 m, 3 r, 4 s all round)", HillSentencesTest::sortsAtFirst);
        DUE.sentence(terms, "HEIRS 0 to 5 (a to f)", HillSentencesTest::heirsFrom0To5);
        DUE.sentence(terms, "each SECTOR is one HEIR's from foot to top", HillSentencesTest::sectorIsOneHeirs);
        DUE.sentence(terms, "(a has all at first)", HillSentencesTest::aHasAllAtFirst);
    }

    private static void ringsFrom0To4() {
        HillSlices x = new HillSlices();
        DUE.is("cell(0, 0)", x.cell(0, 0), 'v');
        DUE.is("cell(4, 0)", x.cell(4, 0), 's');
        DUE.is("stone(0, 0, 0)", x.stone(0, 0, 0), 0);
        DUE.is("stone(4, 0, 0)", x.stone(4, 0, 0), 1);
        DUE.is("avalanche(4, 0, 0)", x.avalanche(4, 0, 0), 1);
        Due.say(x, "s9s9s6");
        for (int ring : NO_RING) {
            DUE.is("cell of ring " + ring, x.cell(ring, 0), UNKNOWN);
            DUE.is("stone of ring " + ring, x.stone(ring, 0, 0), UNKNOWN);
            DUE.is("avalanche of ring " + ring, x.avalanche(ring, 0, 0), UNKNOWN);
            DUE.is("ring " + ring, x.ring(ring), UNKNOWN);
        }
        DUE.is("ring(0)", x.ring(0), 3);
        DUE.is("ring(4)", Due.ring(x, 4, "s9s9s6"), 3);
        DUE.is("avalanche(0, 0, 1)", x.avalanche(0, 0, 1), 1);
    }

    private static void sectorsFrom0To23() {
        HillSlices x = new HillSlices();
        int[] sectors = {0, 23};
        for (int sector : sectors) {
            DUE.is("cell(4, " + sector + ")", x.cell(4, sector), 's');
            DUE.is("was " + sector, x.was(sector, 0), 0);
            DUE.is("way(0, 0, " + sector + ", 2)", x.way(0, 0, sector, 2), sector == 0 ? 1 : 0);
            DUE.is("way(0, " + sector + ", 0, 2)", x.way(0, sector, 0, 2), 1);
            DUE.is("stone(4, " + sector + ", 0)", x.stone(4, sector, 0), 1);
            DUE.is("avalanche(4, " + sector + ", 0)", x.avalanche(4, sector, 0), 1);
            DUE.is("spring of " + sector, x.spring(sector, 0, 0, 0), 0);
        }
        for (int sector : NO_SECTOR) {
            DUE.is("cell(4, " + sector + ")", x.cell(4, sector), UNKNOWN);
            DUE.is("was " + sector, x.was(sector, 0), UNKNOWN);
            DUE.is("way(0, 0, " + sector + ", 0)", x.way(0, 0, sector, 0), UNKNOWN);
            DUE.is("way(0, " + sector + ", 0, 0)", x.way(0, sector, 0, 0), UNKNOWN);
            DUE.is("stone(4, " + sector + ", 0)", x.stone(4, sector, 0), UNKNOWN);
            DUE.is("avalanche(4, " + sector + ", 0)", x.avalanche(4, sector, 0), UNKNOWN);
            DUE.is("spring of " + sector, x.spring(sector, 0, 0, 0), UNKNOWN);
        }
    }

    private static void sector23IsBeside0() {
        HillSlices x = Due.hill("a1b9b9b4c1");
        DUE.is("way(0, 23, 0, 0)", x.way(0, 23, 0, 0), 6);
        DUE.is("way(0, 23, 0, 2)", x.way(0, 23, 0, 2), 1);
        DUE.is("way(2, 0, 23, 0)", x.way(2, 0, 23, 0), 6);
        DUE.is("way(2, 0, 23, 2)", x.way(2, 0, 23, 2), 0);
        DUE.is("stone(3, 23, 0)", x.stone(3, 23, 0), 1);
        DUE.is("bounds(0)", x.bounds(0), 3);
        DUE.is("spring(23, 1, 1, 0)", x.spring(23, 1, 1, 0), 0);
        DUE.is("spring(0, 23, 1, 0)", x.spring(0, 23, 1, 0), 2);
        Due.ring(x, 1, "s9s9s6");
        DUE.is("avalanche(1, 0, 0)", x.avalanche(1, 0, 0), 7);
        DUE.is("avalanche(1, 23, 0)", x.avalanche(1, 23, 0), 7);
        DUE.is("bounds(2)", Due.hill("a1b9b9b4a1").bounds(2), 2);
        // Round the meadow in SECTOR 0 alone: 2 on both sides, and 2 to RING 3.
        String rock = "r9r9r6";
        HillSlices y = Due.hill("a1b9b9b5", rock, rock, rock, rock, "m1r9r9r4v1");
        DUE.is("fence(0)", y.fence(0), 6);
        Due.ring(y, 4, "v1r9r9r4m1");
        Due.slices(y, "b9b9b5a1");
        DUE.is("fence(0) from 23", y.fence(0), 6);
        // 23 and 0 together are worth as much as 11 is.
        HillSlices z = Due.hill("a9a9a6", "v1r9r1v1r9r2v1", "r9r2v1r9r3", rock, rock, rock);
        DUE.is("fair(2, 0)", z.fair(2, 0), 1);
        DUE.is("fair(2, 1)", z.fair(2, 1), 12);
        DUE.is("best(2, -1)", z.best(2, -1), 20);
        DUE.is("best(2, 0)", z.best(2, 0), 1);
    }

    private static void sortsAtFirst() {
        HillSlices x = new HillSlices();
        for (int cell = 0; cell < 120; cell++) {
            int want = "vvmrs".charAt(cell / 24);
            DUE.is("cell(" + cell / 24 + ", " + cell % 24 + ")", x.cell(cell / 24, cell % 24), want);
        }
    }

    private static void heirsFrom0To5() {
        HillSlices x = new HillSlices();
        DUE.is("slices()", Due.slices(x, "a1b2c3d4e5f9"), 6);
        int[] sectors = {1, 2, 3, 4, 5, 9};
        for (int heir = 0; heir < 6; heir++) {
            DUE.is("has " + heir, Integer.bitCount(x.has(heir)), sectors[heir]);
        }
        for (int heir : NO_HEIR) {
            DUE.is("has " + heir, x.has(heir), UNKNOWN);
        }
        int[] letters = {'a' - 1, 'a', 'f', 'f' + 1, 'A'};
        for (int letter : letters) {
            boolean heir = letter == 'a' || letter == 'f';
            x.say(letter);
            DUE.is("fault(1) of sign " + letter, x.fault(1), heir ? 1 : 0);
            DUE.is("fault(2) of sign " + letter, x.fault(2), heir ? 1 : 0);
            x.wipe();
        }
    }

    private static void sectorIsOneHeirs() {
        HillSlices x = Due.hill("f4e4d4c4b4a4");
        int all = 0;
        for (int heir = 0; heir < 6; heir++) {
            DUE.is("shared with " + heir, all & x.has(heir), 0);
            all |= x.has(heir);
        }
        DUE.is("all", all, ALL);
        Due.ring(x, 3, "v9v9v6");
        for (int ring = 1; ring < 5; ring++) {
            DUE.is("stone of ring " + ring, x.stone(ring, 23, 0), 1);
            DUE.is("stone of ring " + ring, x.stone(ring, 0, 0), 32);
        }
    }

    private static void aHasAllAtFirst() {
        HillSlices x = new HillSlices();
        DUE.is("has(0)", x.has(0), ALL);
        for (int heir = 1; heir < 6; heir++) {
            DUE.is("has " + heir, x.has(heir), 0);
        }
    }

    // ---- Terms: texts

    private static void testsOfTexts() {
        String terms = "Terms";
        DUE.sentence(terms, "60 SIGNS at most", HillSentencesTest::sixtySignsAtMost);
        DUE.sentence(terms, "codes 33 to 126", HillSentencesTest::codesFrom33To126);
        DUE.sentence(terms, "a digit 1 to 9", HillSentencesTest::digitFrom1To9);
        DUE.sentence(terms, "so many SECTORS, from SECTOR 0 on", HillSentencesTest::soManySectorsFrom0On);
        DUE.sentence(terms, "24 in all", HillSentencesTest::sectors24InAll);
        DUE.sentence(terms, "as a RING (how = 0): letters v w m r s", HillSentencesTest::lettersOfRings);
        DUE.sentence(terms, "as SLICES (1): a to f", HillSentencesTest::lettersOfSlices);
        DUE.sentence(terms, "as a WILL (2): an HEIR, then :, then RUNS of HEIRS", HillSentencesTest::lettersOfWills);
        DUE.sentence(terms, "as many SECTORS in all as that HEIR has", HillSentencesTest::asManyAsThatHeirHas);
        DUE.sentence(terms, "(of one that has none: the letter and : alone)", HillSentencesTest::willOfOneThatHasNone);
        DUE.sentence(terms, "the place (from 0 on) of the first sign that can not stand there",
            HillSentencesTest::firstSignThatCanNotStand);
        DUE.sentence(terms, "(a digit by which there are more than there should be, too)",
            HillSentencesTest::digitByWhichThereAreMore);
        DUE.sentence(terms, "the number of signs, if more must come", HillSentencesTest::moreMustCome);
    }

    private static void faultIs(HillSlices x, int how, String text, int want) {
        Due.say(x, text);
        DUE.is("fault(" + how + ") of " + text, x.fault(how), want);
        x.wipe();
    }

    private static void sixtySignsAtMost() {
        HillSlices x = new HillSlices();
        for (int count = 1; count <= 60; count++) {
            DUE.is("say, sign " + count, x.say('v'), count);
        }
        DUE.is("say, sign 61", x.say('v'), FULL);
        DUE.is("told(0)", x.told(0), 60);
    }

    private static void codesFrom33To126() {
        HillSlices x = new HillSlices();
        DUE.is("say(33)", x.say(33), 1);
        DUE.is("say(126)", x.say(126), 2);
        int[] wrong = {32, 127, 0, -33, 256 + 97, 65536 + 97, MIN, MAX};
        for (int sign : wrong) {
            DUE.is("say " + sign, x.say(sign), OUTSIDE);
        }
    }

    private static void digitFrom1To9() {
        HillSlices x = new HillSlices();
        for (int sign = 33; sign < 127; sign++) {
            x.say('s');
            x.say(sign);
            DUE.is("fault(0) of s and sign " + sign, x.fault(0), sign >= '1' && sign <= '9' ? 2 : 1);
            x.wipe();
        }
    }

    private static void soManySectorsFrom0On() {
        HillSlices x = new HillSlices();
        Due.ring(x, 2, "w1v9s9r4m1");
        String sorts = "wvvvvvvvvvsssssssssrrrrm";
        for (int sector = 0; sector < 24; sector++) {
            DUE.is("cell(2, " + sector + ")", x.cell(2, sector), sorts.charAt(sector));
        }
        Due.slices(x, "f1a9b9c4e1");
        DUE.is("was(0, 0)", x.was(0, 0), 5);
        DUE.is("was(1, 0)", x.was(1, 0), 0);
        DUE.is("was(23, 0)", x.was(23, 0), 4);
    }

    private static void sectors24InAll() {
        HillSlices x = new HillSlices();
        faultIs(x, 0, "v9v9v5", 6);
        faultIs(x, 0, "v9v9v6", NONE);
        faultIs(x, 0, "v9v9v7", 5);
        faultIs(x, 0, "v9v9v6v1", 6);
        faultIs(x, 1, "a9a9a5", 6);
        faultIs(x, 1, "a9a9a6", NONE);
        faultIs(x, 1, "a9a9a7", 5);
        // The most runs that there can be.
        faultIs(x, 0, "v1w1v1w1v1w1v1w1v1w1v1w1v1w1v1w1v1w1v1w1v1w1v1w1", NONE);
        faultIs(x, 0, "v1w1v1w1v1w1v1w1v1w1v1w1v1w1v1w1v1w1v1w1v1w1v1", 46);
        faultIs(x, 0, "v1w1v1w1v1w1v1w1v1w1v1w1v1w1v1w1v1w1v1w1v1w1v1w1v1", 48);
    }

    /** Each sign first, and each sign behind a run. */
    private static void lettersAre(int how, String letters) {
        HillSlices x = new HillSlices();
        HillSlices y = new HillSlices();
        for (int sign = 33; sign < 127; sign++) {
            boolean letter = letters.indexOf(sign) >= 0;
            x.say(sign);
            DUE.is("fault(" + how + ") of sign " + sign, x.fault(how), letter ? 1 : 0);
            x.wipe();
            y.say(letters.charAt(0));
            y.say('1');
            y.say(sign);
            DUE.is("fault(" + how + ") of a run and sign " + sign, y.fault(how), letter ? 3 : 2);
            y.wipe();
        }
    }

    private static void lettersOfRings() {
        lettersAre(0, "vwmrs");
    }

    private static void lettersOfSlices() {
        lettersAre(1, "abcdef");
    }

    private static void lettersOfWills() {
        HillSlices x = new HillSlices();
        HillSlices y = new HillSlices();
        HillSlices z = new HillSlices();
        for (int sign = 33; sign < 127; sign++) {
            boolean heir = "abcdef".indexOf(sign) >= 0;
            x.say(sign);
            DUE.is("fault(2) of sign " + sign, x.fault(2), heir ? 1 : 0);
            x.wipe();
            y.say('a');
            y.say(sign);
            DUE.is("fault(2) of a and sign " + sign, y.fault(2), sign == ':' ? 2 : 1);
            y.wipe();
            z.say('a');
            z.say(':');
            z.say(sign);
            DUE.is("fault(2) of a: and sign " + sign, z.fault(2), heir ? 3 : 2);
            z.wipe();
        }
    }

    private static void asManyAsThatHeirHas() {
        HillSlices x = Due.hill("a9a7b7c1");
        faultIs(x, 2, "a:d9d6", 6);
        faultIs(x, 2, "a:d9d7", NONE);
        faultIs(x, 2, "a:d9d8", 5);
        faultIs(x, 2, "a:d9d7d1", 6);
        faultIs(x, 2, "b:b6", 4);
        faultIs(x, 2, "b:b7", NONE);
        faultIs(x, 2, "b:b8", 3);
        faultIs(x, 2, "c:a1", NONE);
        faultIs(x, 2, "c:a2", 3);
        HillSlices y = new HillSlices();
        faultIs(y, 2, "a:f9f9f5", 8);
        faultIs(y, 2, "a:f9f9f6", NONE);
        faultIs(y, 2, "a:f9f9f7", 7);
    }

    private static void willOfOneThatHasNone() {
        HillSlices x = new HillSlices();
        faultIs(x, 2, "f", 1);
        faultIs(x, 2, "f:", NONE);
        // The colon that went with wipe does not stand there any more.
        faultIs(x, 2, "f", 1);
        faultIs(x, 2, "f:a", 2);
        faultIs(x, 2, "f:f1", 2);
        faultIs(x, 2, "f::", 2);
        faultIs(x, 2, "a:", 2);
    }

    private static void firstSignThatCanNotStand() {
        HillSlices x = new HillSlices();
        faultIs(x, 0, "x", 0);
        faultIs(x, 0, "xyxy", 0);
        faultIs(x, 0, "vxvx", 1);
        faultIs(x, 0, "v1x1x1", 2);
        faultIs(x, 0, "v9v9v6!", 6);
        faultIs(x, 0, "v9v9v6!!", 6);
        faultIs(x, 1, "a9b9c3?3!", 6);
        faultIs(x, 2, "!!", 0);
        faultIs(x, 2, "a!!", 1);
        faultIs(x, 2, "a:!!", 2);
    }

    private static void digitByWhichThereAreMore() {
        HillSlices x = Due.hill("a9a9a4b2");
        faultIs(x, 0, "v9v9v7", 5);
        faultIs(x, 0, "v9v9v5v2", 7);
        faultIs(x, 0, "v9v9v9", 5);
        faultIs(x, 1, "a9b9c7", 5);
        faultIs(x, 2, "b:c3", 3);
        faultIs(x, 2, "b:c1d2", 5);
        // One sign ahead of that digit nothing is wrong yet.
        faultIs(x, 0, "v9v9v", 5);
    }

    private static void moreMustCome() {
        HillSlices x = Due.hill("a9a9a4b2");
        faultIs(x, 0, "", 0);
        faultIs(x, 0, "v", 1);
        faultIs(x, 0, "v9", 2);
        faultIs(x, 0, "v9v9v5", 6);
        faultIs(x, 1, "", 0);
        faultIs(x, 1, "a9a9a5a", 7);
        faultIs(x, 2, "", 0);
        faultIs(x, 2, "b", 1);
        faultIs(x, 2, "b:", 2);
        faultIs(x, 2, "b:c", 3);
        faultIs(x, 2, "b:c1", 4);
        faultIs(x, 2, "b:c1c", 5);
    }

    // ---- Terms: WILLS, WEDDINGS, GENERATIONS

    private static void testsOfGenerations() {
        String terms = "Terms";
        DUE.sentence(terms, "A WILL gives the SECTORS of an HEIR, by numbers rising, to the HEIRS of its RUNS.",
            HillSentencesTest::willGivesByNumbersRising);
        DUE.sentence(terms, "A WEDDING of two: all SECTORS of the one become the other one's.",
            HillSentencesTest::weddingGivesAll);
        DUE.sentence(terms, "Each WILL and WEDDING is a GENERATION more", HillSentencesTest::eachIsAGenerationMore);
        DUE.sentence(terms, "0 at first", HillSentencesTest::generation0AtFirst);
        DUE.sentence(terms, "20 at most", HillSentencesTest::generations20AtMost);
        DUE.sentence(terms, "SLICES make it 0 again", HillSentencesTest::slicesMakeIt0Again);
        DUE.sentence(terms, "whose a SECTOR was behind each is kept", HillSentencesTest::whoseItWasIsKept);
    }

    private static void ownersAre(HillSlices x, String owners) {
        for (int sector = 0; sector < 24; sector++) {
            int heir = owners.charAt(sector) - 'a';
            DUE.is("has(" + heir + "), sector " + sector, x.has(heir) >> sector & 1, 1);
        }
    }

    private static void willGivesByNumbersRising() {
        HillSlices x = Due.hill("a1b1a1b9a1b9a1a1");
        Due.will(x, "a:c1d2e1f1");
        ownersAre(x, "cbdbbbbbbbbbdbbbbbbbbbef");
        // To itself, too; and none but that HEIR gives something.
        Due.will(x, "b:b9a1b9");
        ownersAre(x, "cbdbbbbbbbbadbbbbbbbbbef");
    }

    private static void weddingGivesAll() {
        HillSlices x = Due.hill("a1b9a1c9b1c1b1a1");
        x.wedding(1, 0);
        ownersAre(x, "bbbbbbbbbbbcccccccccbcbb");
        DUE.is("has(0)", x.has(0), 0);
        // One that has none brings none, and one that had none has all of the other's.
        x.wedding(2, 5);
        ownersAre(x, "bbbbbbbbbbbcccccccccbcbb");
        x.wedding(5, 1);
        ownersAre(x, "fffffffffffcccccccccfcff");
        DUE.is("has(1)", x.has(1), 0);
    }

    private static void eachIsAGenerationMore() {
        HillSlices x = new HillSlices();
        DUE.is("will()", Due.will(x, "a:b9b9b6"), 1);
        DUE.is("wedding(0, 1)", x.wedding(0, 1), 2);
        // Also where nothing comes to another one.
        DUE.is("will() of one that has none", Due.will(x, "b:"), 3);
        DUE.is("will() to itself", Due.will(x, "a:a9a9a6"), 4);
        DUE.is("wedding(4, 5), both have none", x.wedding(4, 5), 5);
        DUE.is("told(1)", x.told(1), 5);
    }

    private static void generation0AtFirst() {
        HillSlices x = new HillSlices();
        DUE.is("told(1)", x.told(1), 0);
        DUE.is("was(0, 0)", x.was(0, 0), 0);
        DUE.is("was(0, 1)", x.was(0, 1), OUTSIDE);
        DUE.is("wedding(1, 0)", x.wedding(1, 0), 1);
    }

    private static void generations20AtMost() {
        HillSlices x = new HillSlices();
        for (int generation = 1; generation <= 19; generation++) {
            DUE.is("wedding", x.wedding(1, 2), generation);
        }
        x.image(0);
        DUE.is("wedding, the last one", x.wedding(1, 2), 20);
        DUE.is("wedding, one more", x.wedding(1, 2), FULL);
        DUE.is("will(), one more", Due.will(x, "b:"), FULL);
        DUE.is("told(1)", x.told(1), 20);
        x.restore(0);
        DUE.is("will(), the last one", x.will(), 20);
        DUE.is("will(), one more", Due.will(x, "b:"), FULL);
        DUE.is("wedding, one more", x.wedding(1, 2), FULL);
    }

    private static void slicesMakeIt0Again() {
        HillSlices x = new HillSlices();
        for (int generation = 1; generation <= 20; generation++) {
            x.wedding(1, 0);
        }
        Due.slices(x, "c9c9c6");
        DUE.is("told(1)", x.told(1), 0);
        DUE.is("was(0, 0)", x.was(0, 0), 2);
        DUE.is("was(0, 1)", x.was(0, 1), OUTSIDE);
        DUE.is("wedding(1, 0)", x.wedding(3, 2), 1);
        DUE.is("was(0, 0)", x.was(0, 0), 2);
        DUE.is("was(0, 1)", x.was(0, 1), 3);
    }

    private static void whoseItWasIsKept() {
        HillSlices x = Due.hill("a9a9a5f1");
        for (int generation = 1; generation <= 20; generation++) {
            x.wedding(generation % 3, (generation + 2) % 3);
        }
        for (int generation = 0; generation <= 20; generation++) {
            DUE.is("was(0, " + generation + ")", x.was(0, generation), generation % 3);
            DUE.is("was(22, " + generation + ")", x.was(22, generation), generation % 3);
            DUE.is("was(23, " + generation + ")", x.was(23, generation), 5);
        }
    }

    // ---- Promises 1 to 6

    private static void testsOfPromises1To6() {
        DUE.sentence("Promise 1", "All is a's.", HillSentencesTest::allIsAs);
        DUE.sentence("Promise 2", "A sign more: how many.", HillSentencesTest::aSignMore);
        DUE.sentence("Promise 2", "OUTSIDE", HillSentencesTest::sayOutside);
        DUE.sentence("Promise 2", "FULL", HillSentencesTest::sayFull);
        DUE.sentence("Promise 3", "Signs go: how many there were.", HillSentencesTest::signsGo);
        DUE.sentence("Promise 4", "THE FAULT; NONE.", HillSentencesTest::faultOrNone);
        DUE.sentence("Promise 4", "OUTSIDE: how.", HillSentencesTest::faultOutside);
        DUE.sentence("Promise 5", "The PAD becomes a RING (it is empty then): RUNS.", HillSentencesTest::padBecomesRing);
        DUE.sentence("Promise 5", "UNKNOWN", HillSentencesTest::ringUnknown);
        DUE.sentence("Promise 5", "NO: there is a FAULT.", HillSentencesTest::ringFault);
        DUE.sentence("Promise 6", "The PAD becomes SLICES (it is empty then): RUNS.", HillSentencesTest::padBecomesSlices);
        DUE.sentence("Promise 6", "NO: there is a FAULT.", HillSentencesTest::slicesFault);
    }

    private static void allIsAs() {
        HillSlices x = new HillSlices();
        DUE.is("told(10)", x.told(10), 24);
        for (int sector = 0; sector < 24; sector++) {
            DUE.is("was(" + sector + ", 0)", x.was(sector, 0), 0);
        }
        DUE.is("bounds(0)", x.bounds(0), 0);
        DUE.is("the PAD is empty", x.told(0), 0);
    }

    private static void aSignMore() {
        HillSlices x = new HillSlices();
        DUE.is("say, on the empty PAD", x.say('!'), 1);
        DUE.is("say", x.say('!'), 2);
        x.wipe();
        DUE.is("say, behind wipe", x.say('!'), 1);
        x.wipe();
        Due.say(x, "v".repeat(59));
        DUE.is("say, on the last place", x.say('~'), 60);
    }

    private static void sayOutside() {
        HillSlices x = new HillSlices();
        int[] wrong = {MIN, -1, 0, 32, 127, 128, MAX};
        for (int sign : wrong) {
            DUE.is("say " + sign, x.say(sign), OUTSIDE);
            DUE.is("told(0)", x.told(0), 0);
        }
    }

    private static void sayFull() {
        HillSlices x = Due.say(new HillSlices(), "v".repeat(60));
        DUE.is("say, full", x.say(33), FULL);
        DUE.is("say, full again", x.say(126), FULL);
        DUE.is("told(0)", x.told(0), 60);
        DUE.is("wipe()", x.wipe(), 60);
        DUE.is("say, not full any more", x.say(33), 1);
    }

    private static void signsGo() {
        HillSlices x = new HillSlices();
        DUE.is("wipe(), of an empty PAD", x.wipe(), 0);
        Due.say(x, "x");
        DUE.is("wipe(), of one", x.wipe(), 1);
        DUE.is("told(0)", x.told(0), 0);
        DUE.is("wipe(), again", x.wipe(), 0);
        Due.say(x, "v9v9v6");
        Due.say(x, "x".repeat(54));
        DUE.is("wipe(), of a full PAD", x.wipe(), 60);
        DUE.is("fault(0)", x.fault(0), 0);
    }

    private static void faultOrNone() {
        HillSlices x = new HillSlices();
        faultIs(x, 0, "v9v9v6", NONE);
        faultIs(x, 0, "v9v9v", 5);
        faultIs(x, 1, "a9a9a6", NONE);
        faultIs(x, 1, "a9a9:", 4);
        faultIs(x, 2, "a:a9a9a6", NONE);
        faultIs(x, 2, "a:a9a9a", 7);
        // The signs stay.
        Due.say(x, "v9v9v6");
        DUE.is("fault(0)", x.fault(0), NONE);
        DUE.is("told(0)", x.told(0), 6);
        DUE.is("fault(0), again", x.fault(0), NONE);
    }

    private static void faultOutside() {
        HillSlices x = new HillSlices();
        int[] wrong = {-1, 3, MIN, MAX};
        for (int how : wrong) {
            DUE.is("fault " + how, x.fault(how), OUTSIDE);
        }
        DUE.is("fault(0)", x.fault(0), 0);
        DUE.is("fault(2)", x.fault(2), 0);
    }

    private static void padBecomesRing() {
        HillSlices x = new HillSlices();
        DUE.is("ring, fewest RUNS", Due.ring(x, 0, "w9w9w6"), 3);
        DUE.is("told(0)", x.told(0), 0);
        DUE.is("ring, most RUNS", Due.ring(x, 4, "v1w1m1r1s1v1w1m1r1s1v1w1m1r1s1v1w1m1r1s1v1w1m1r1"), 24);
        DUE.is("told(0)", x.told(0), 0);
        for (int sector = 0; sector < 24; sector++) {
            DUE.is("cell(0, " + sector + ")", x.cell(0, sector), 'w');
            DUE.is("cell(1, " + sector + ")", x.cell(1, sector), 'v');
            DUE.is("cell(3, " + sector + ")", x.cell(3, sector), 'r');
            DUE.is("cell(4, " + sector + ")", x.cell(4, sector), "vwmrs".charAt(sector % 5));
        }
        // A RUN that goes on in the next one counts as two.
        DUE.is("ring, RUNS alike", Due.ring(x, 2, "v5v5v5v5v4"), 5);
    }

    private static void ringUnknown() {
        HillSlices x = Due.say(new HillSlices(), "w9w9w6");
        for (int ring : NO_RING) {
            DUE.is("ring " + ring, x.ring(ring), UNKNOWN);
        }
        DUE.is("told(0)", x.told(0), 6);
    }

    private static void ringFault() {
        HillSlices x = new HillSlices();
        String[] wrong = {"", "w9w9w5", "w9w9w7", "w9w9w6w", "a9a9a6", "w9w9w"};
        for (String text : wrong) {
            DUE.is("ring(0) of " + text, Due.ring(x, 0, text), NO);
            DUE.is("wipe()", x.wipe(), text.length());
        }
        DUE.is("cell(0, 0)", x.cell(0, 0), 'v');
    }

    private static void padBecomesSlices() {
        HillSlices x = new HillSlices();
        DUE.is("slices, fewest RUNS", Due.slices(x, "f9f9f6"), 3);
        DUE.is("told(0)", x.told(0), 0);
        DUE.is("has(5)", x.has(5), ALL);
        DUE.is("has(0)", x.has(0), 0);
        DUE.is("slices, most RUNS", Due.slices(x, "a1b1c1d1e1f1a1b1c1d1e1f1a1b1c1d1e1f1a1b1c1d1e1f1"), 24);
        DUE.is("told(0)", x.told(0), 0);
        ownersAre(x, "abcdefabcdefabcdefabcdef");
    }

    private static void slicesFault() {
        HillSlices x = new HillSlices();
        String[] wrong = {"", "b9b9b5", "b9b9b7", "b9b9b6b", "v9v9v6", "g9g9g6"};
        for (String text : wrong) {
            DUE.is("slices() of " + text, Due.slices(x, text), NO);
            DUE.is("wipe()", x.wipe(), text.length());
        }
        DUE.is("has(0)", x.has(0), ALL);
    }

    // ---- Promises 7 to 11

    private static void testsOfPromises7To11() {
        DUE.sentence("Promise 7", "The WILL on the PAD is done (it is empty then): which GENERATION it is.",
            HillSentencesTest::willIsDone);
        DUE.sentence("Promise 7", "FULL", HillSentencesTest::willFull);
        DUE.sentence("Promise 7", "NO: there is a FAULT.", HillSentencesTest::willFault);
        DUE.sentence("Promise 8", "A WEDDING: all of the other one becomes one's: which GENERATION it is.",
            HillSentencesTest::weddingIsDone);
        DUE.sentence("Promise 8", "UNKNOWN: also both are one", HillSentencesTest::weddingUnknown);
        DUE.sentence("Promise 8", "FULL", HillSentencesTest::weddingFull);
        DUE.sentence("Promise 9", "The SORT of a CELL (its code).", HillSentencesTest::sortOfCell);
        DUE.sentence("Promise 9", "UNKNOWN.", HillSentencesTest::cellUnknown);
        DUE.sentence("Promise 10", "Whose a SECTOR was behind a GENERATION.", HillSentencesTest::whoseItWas);
        DUE.sentence("Promise 10", "UNKNOWN", HillSentencesTest::wasUnknown);
        DUE.sentence("Promise 10", "OUTSIDE: it has not been.", HillSentencesTest::itHasNotBeen);
        DUE.sentence("Promise 11", "SECTORS of an HEIR, as bits.", HillSentencesTest::sectorsAsBits);
        DUE.sentence("Promise 11", "UNKNOWN.", HillSentencesTest::hasUnknown);
    }

    private static void willIsDone() {
        HillSlices x = new HillSlices();
        DUE.is("will()", Due.will(x, "a:b9b9b6"), 1);
        DUE.is("told(0)", x.told(0), 0);
        DUE.is("has(1)", x.has(1), ALL);
        DUE.is("will() of one that has none", Due.will(x, "a:"), 2);
        DUE.is("told(0)", x.told(0), 0);
        DUE.is("will(), most RUNS", Due.will(x, "b:a1b1a1b1a1b1a1b1a1b1a1b1a1b1a1b1a1b1a1b1a1b1a1c1"), 3);
        DUE.is("told(0)", x.told(0), 0);
        DUE.is("has(0)", x.has(0), 0x555555);
        DUE.is("has(2)", x.has(2), 1 << 23);
    }

    private static void willFull() {
        HillSlices x = new HillSlices();
        for (int generation = 1; generation <= 19; generation++) {
            x.wedding(2, 1);
        }
        DUE.is("will(), the last one", Due.will(x, "a:b9b9b6"), 20);
        DUE.is("will(), one more", Due.will(x, "b:a9a9a6"), FULL);
        DUE.is("told(0)", x.told(0), 8);
        DUE.is("has(1)", x.has(1), ALL);
    }

    private static void willFault() {
        HillSlices x = new HillSlices();
        String[] wrong = {"", "a", "a:", "a:b9b9b5", "a:b9b9b7", "a:b9b9b6c", "b:b1", "g:", "a;b9b9b6"};
        for (String text : wrong) {
            DUE.is("will() of " + text, Due.will(x, text), NO);
            DUE.is("wipe()", x.wipe(), text.length());
        }
        DUE.is("has(0)", x.has(0), ALL);
        DUE.is("told(1)", x.told(1), 0);
    }

    private static void weddingIsDone() {
        HillSlices x = Due.hill("a1b9b9c4d1");
        DUE.is("wedding(0, 3)", x.wedding(0, 3), 1);
        DUE.is("has(0)", x.has(0), 1 | 1 << 23);
        DUE.is("has(3)", x.has(3), 0);
        DUE.is("wedding(5, 0)", x.wedding(5, 0), 2);
        DUE.is("has(5)", x.has(5), 1 | 1 << 23);
        DUE.is("wedding(0, 3), both have none", x.wedding(0, 3), 3);
        DUE.is("has(1)", x.has(1), 262143 << 1);
        DUE.is("has(2)", x.has(2), 15 << 19);
    }

    private static void weddingUnknown() {
        HillSlices x = new HillSlices();
        for (int heir : NO_HEIR) {
            DUE.is("wedding " + heir + " 0", x.wedding(heir, 0), UNKNOWN);
            DUE.is("wedding 0 " + heir, x.wedding(0, heir), UNKNOWN);
        }
        for (int heir = 0; heir < 6; heir++) {
            DUE.is("wedding of " + heir + " with itself", x.wedding(heir, heir), UNKNOWN);
        }
        DUE.is("told(1)", x.told(1), 0);
        DUE.is("wedding(5, 0)", x.wedding(5, 0), 1);
    }

    private static void weddingFull() {
        HillSlices x = new HillSlices();
        for (int generation = 1; generation <= 19; generation++) {
            Due.will(x, "f:");
        }
        DUE.is("wedding, the last one", x.wedding(1, 0), 20);
        DUE.is("wedding, one more", x.wedding(0, 1), FULL);
        DUE.is("has(1)", x.has(1), ALL);
    }

    private static void sortOfCell() {
        HillSlices x = new HillSlices();
        Due.ring(x, 4, "v9w9m4r1s1");
        int[] sectors = {0, 9, 18, 22, 23};
        int[] codes = {118, 119, 109, 114, 115};
        for (int i = 0; i < 5; i++) {
            DUE.is("cell(4, " + sectors[i] + ")", x.cell(4, sectors[i]), codes[i]);
        }
        DUE.is("cell(3, 23)", x.cell(3, 23), 114);
        DUE.is("cell(0, 0)", x.cell(0, 0), 118);
    }

    private static void cellUnknown() {
        HillSlices x = new HillSlices();
        for (int ring : NO_RING) {
            DUE.is("cell " + ring + " 0", x.cell(ring, 0), UNKNOWN);
        }
        for (int sector : NO_SECTOR) {
            DUE.is("cell 0 " + sector, x.cell(0, sector), UNKNOWN);
        }
        DUE.is("cell(5, 24)", x.cell(5, 24), UNKNOWN);
    }

    private static void whoseItWas() {
        HillSlices x = Due.hill("a9a9a5b1");
        x.wedding(2, 0);
        x.wedding(2, 1);
        int[] first = {0, 2, 2};
        int[] last = {1, 1, 2};
        for (int generation = 0; generation < 3; generation++) {
            DUE.is("was(0, " + generation + ")", x.was(0, generation), first[generation]);
            DUE.is("was(23, " + generation + ")", x.was(23, generation), last[generation]);
        }
    }

    private static void wasUnknown() {
        HillSlices x = new HillSlices();
        for (int sector : NO_SECTOR) {
            DUE.is("was " + sector, x.was(sector, 0), UNKNOWN);
        }
        DUE.is("was(23, 0)", x.was(23, 0), 0);
    }

    private static void itHasNotBeen() {
        HillSlices x = new HillSlices();
        x.wedding(1, 0);
        DUE.is("was(0, 1)", x.was(0, 1), 1);
        int[] wrong = {2, 20, 21, -1, MIN, MAX};
        for (int generation : wrong) {
            DUE.is("was(0, " + generation + ")", x.was(0, generation), OUTSIDE);
        }
        for (int generation = 2; generation <= 20; generation++) {
            x.wedding(1, 0);
        }
        DUE.is("was(0, 20)", x.was(0, 20), 1);
        DUE.is("was(0, 21)", x.was(0, 21), OUTSIDE);
        // What was ahead of the SLICES has not been.
        Due.slices(x, "c9c9c6");
        DUE.is("was(0, 1)", x.was(0, 1), OUTSIDE);
    }

    private static void sectorsAsBits() {
        HillSlices x = Due.hill("a1b9b9b4c1");
        DUE.is("has(0), the first SECTOR", x.has(0), 1);
        DUE.is("has(1)", x.has(1), 4194303 << 1);
        DUE.is("has(2), the last SECTOR", x.has(2), 8388608);
        DUE.is("has(3), none", x.has(3), 0);
        DUE.is("has(0), all", new HillSlices().has(0), ALL);
    }

    private static void hasUnknown() {
        HillSlices x = new HillSlices();
        for (int heir : NO_HEIR) {
            DUE.is("has " + heir, x.has(heir), UNKNOWN);
        }
        DUE.is("has(5)", x.has(5), 0);
    }
}
