/** Promises 23 to 28: FENCES, SPRINGS, BOUNDS, IMAGES and what is told. */
public final class FencesTest {
    private static final int UNKNOWN = -1, OUTSIDE = -2, STATE = -3, NONE = -6;
    private static final String ROCK = "r9r9r6";
    private static final int[] NO_HEIR = {-1, 6, Integer.MIN_VALUE, Integer.MAX_VALUE};
    private static final Due DUE = new Due("FencesTest");

    private FencesTest() {
    }

    public static void main(String[] args) {
        wrongFences();
        fenceRoundOneMeadow();
        fenceBetween();
        fenceRoundTheHill();
        springIs();
        springYears();
        wrongSprings();
        bounds();
        wedBest();
        narrow();
        wrongImages();
        image();
        imageOfAllGenerations();
        imagesOfTwo();
        imageIsNotThePad();
        told();
        DUE.end();
    }

    /** A hill of a alone but for b's sector 12, of rock but for one CELL of each of two SORTS. */
    private static HillSlices rockBut(int ringOfMeadow, int ringOfVines) {
        HillSlices x = Due.hill("a9a3b1a9a2", ROCK, ROCK, ROCK, ROCK, ROCK);
        if (ringOfMeadow == ringOfVines) {
            Due.ring(x, ringOfMeadow, "m1r9r2v1r9r2");
        } else {
            Due.ring(x, ringOfMeadow, "m1r9r9r5");
            Due.ring(x, ringOfVines, "r9r3v1r9r2");
        }
        return x;
    }

    private static void wrongFences() {
        HillSlices x = new HillSlices();
        for (int heir : NO_HEIR) {
            DUE.is("fence " + heir, x.fence(heir), UNKNOWN);
        }
        DUE.is("fence(0), no vines of others", x.fence(0), 0);
        DUE.is("fence(1), no meadows", x.fence(1), 0);
    }

    private static void fenceRoundOneMeadow() {
        // All sides of a CELL by its RING: 2 + 2 and 5, 5 + 4, 4 + 3, 3 + 2, 2; but in RING 1 it is shorter
        // to take in the CELL below.
        int[] round = {9, 12, 11, 9, 6};
        for (int meadow = 0; meadow < 5; meadow++) {
            for (int vines = 0; vines < 5; vines++) {
                HillSlices x = rockBut(meadow, vines);
                DUE.is("fence(0), " + meadow + " " + vines, x.fence(0), Math.min(round[meadow], round[vines]));
                DUE.is("fence(1), " + meadow + " " + vines, x.fence(1), 0);
            }
        }
    }

    private static void fenceBetween() {
        // a's meadow is beside b's vines: 2 there, and round the two CELLS what is least.
        HillSlices x = Due.hill("a1b9b9b5", ROCK, ROCK, ROCK, ROCK, "m1v1r9r9r4");
        DUE.is("fence(0)", x.fence(0), 6);
        // b's vines all round in RING 4: beside it on both sides, and the way down to them.
        Due.ring(x, 4, "m1v9v9v5");
        DUE.is("fence(0)", x.fence(0), 6);
        Due.ring(x, 4, "v9v9v6");
        Due.ring(x, 0, "m1r9r9r5");
        DUE.is("fence(0), a's own vines above", x.fence(0), 9);
        // Up there are the others' vines; between RINGS 3 and 4 it is 2 long in each SECTOR.
        HillSlices y = Due.hill("a4b9b9b2", "m9m9m6", ROCK, ROCK, ROCK, "r4v1r9r9r1");
        DUE.is("fence(0)", y.fence(0), 6);
        Due.ring(y, 4, "r4v2r9r9");
        DUE.is("fence(0)", y.fence(0), 8);
        DUE.is("fence(1)", y.fence(1), 0);
        DUE.is("fence(2)", y.fence(2), 0);
    }

    private static void fenceRoundTheHill() {
        // All a's but sector 12; a's meadows at the foot, b's vines at its top: 6 round the vines.
        HillSlices x = Due.hill("a9a3b1a9a2", "m9m9m6", ROCK, ROCK, ROCK, "v9v9v6");
        DUE.is("fence(0)", x.fence(0), 6);
        // Each SECTOR another one's: as many fences of 2 between RINGS 3 and 4 as there are SECTORS, or round a's.
        HillSlices y = Due.hill("a1b1a1b1a1b1a1b1a1b1a1b1a1b1a1b1a1b1a1b1a1b1a1b1", ROCK, ROCK, ROCK, "m9m9m6", "v9v9v6");
        DUE.is("fence(0)", y.fence(0), 48);
        DUE.is("fence(1)", y.fence(1), 48);
        // From SECTOR 23 to 0 it is side by side, too.
        HillSlices z = Due.hill("a1b9b9b5", "m1r9r9r4v1", ROCK, ROCK, ROCK, ROCK);
        DUE.is("fence(0)", z.fence(0), 9);
        Due.ring(z, 1, "v1r9r9r5");
        DUE.is("fence(0)", z.fence(0), 9);
        Due.slices(z, "b9b9b5a1");
        DUE.is("fence(0)", z.fence(0), 0);
        DUE.is("fence(1)", z.fence(1), 9);
    }

    private static void springIs() {
        HillSlices x = Due.hill("a9b9c6");
        DUE.is("spring(0, 0, 0, 0)", x.spring(0, 0, 0, 0), 0);
        DUE.is("spring(9, 0, 999, 0)", x.spring(9, 0, 999, 0), 1);
        DUE.is("spring(8, 1, 1, 0)", x.spring(8, 1, 1, 0), 1);
        DUE.is("spring(8, 1, 2, 0)", x.spring(8, 1, 2, 0), 1);
        DUE.is("spring(23, 1, 1, 0)", x.spring(23, 1, 1, 0), 0);
        DUE.is("spring(0, 23, 1, 0)", x.spring(0, 23, 1, 0), 2);
        DUE.is("spring(5, 23, 999, 0)", x.spring(5, 23, 999, 0), 1);
        x.wedding(3, 1);
        DUE.is("spring(9, 0, 999, 0)", x.spring(9, 0, 999, 0), 3);
    }

    private static void springYears() {
        HillSlices x = Due.hill("a9b9c6");
        DUE.is("years of a", x.spring(0, 1, 23, 10), 9);
        DUE.is("years of b", x.spring(0, 1, 23, 11), 9);
        DUE.is("years of c", x.spring(0, 1, 23, 12), 6);
        DUE.is("years of d", x.spring(0, 1, 23, 13), 0);
        DUE.is("years of a", x.spring(0, 1, 24, 10), 10);
        DUE.is("years of a", x.spring(0, 0, 999, 10), 1000);
        DUE.is("years of a", x.spring(0, 0, 0, 10), 1);
        DUE.is("years of b", x.spring(0, 0, 999, 11), 0);
        DUE.is("years of c", x.spring(23, 12, 999, 12), 500);
        DUE.is("first year of a", x.spring(0, 1, 23, 20), 0);
        DUE.is("first year of b", x.spring(0, 1, 23, 21), 9);
        DUE.is("first year of b", x.spring(0, 1, 9, 21), 9);
        DUE.is("first year of b", x.spring(0, 1, 8, 21), NONE);
        DUE.is("first year of c", x.spring(0, 1, 999, 22), 18);
        DUE.is("first year of c", x.spring(0, 23, 999, 22), 1);
        DUE.is("first year of f", x.spring(0, 23, 999, 25), NONE);
        // Twelve SECTORS on each year it comes to two SECTORS alone.
        DUE.is("first year of c", x.spring(0, 12, 999, 22), NONE);
    }

    private static void wrongSprings() {
        HillSlices x = new HillSlices();
        int[] sectors = {-1, 24, Integer.MIN_VALUE, Integer.MAX_VALUE};
        for (int wrong : sectors) {
            DUE.is("spring of sector " + wrong, x.spring(wrong, 0, 0, 0), UNKNOWN);
            DUE.is("spring of sector " + wrong, x.spring(wrong, -1, -1, -1), UNKNOWN);
            DUE.is("spring going " + wrong, x.spring(0, wrong, 0, 0), OUTSIDE);
        }
        int[] years = {-1, 1000, Integer.MIN_VALUE, Integer.MAX_VALUE};
        for (int year : years) {
            DUE.is("spring, year " + year, x.spring(0, 1, year, 10), OUTSIDE);
        }
        int[] whats = {-1, 1, 9, 16, 19, 26, Integer.MIN_VALUE, Integer.MAX_VALUE};
        for (int what : whats) {
            DUE.is("spring, what " + what, x.spring(0, 0, 0, what), OUTSIDE);
        }
    }

    private static void bounds() {
        HillSlices x = new HillSlices();
        int[] whats = {-1, 3, Integer.MIN_VALUE, Integer.MAX_VALUE};
        for (int what : whats) {
            DUE.is("bounds " + what, x.bounds(what), OUTSIDE);
        }
        DUE.is("bounds(0)", x.bounds(0), 0);
        Due.slices(x, "a1b9b9b5");
        DUE.is("bounds(0)", x.bounds(0), 2);
        Due.slices(x, "a9b9a6");
        DUE.is("bounds(0)", x.bounds(0), 2);
        Due.slices(x, "a9b9c6");
        DUE.is("bounds(0)", x.bounds(0), 3);
        Due.slices(x, "a1b1a1b1a1b1a1b1a1b1a1b1a1b1a1b1a1b1a1b1a1b1a1b1");
        DUE.is("bounds(0)", x.bounds(0), 24);
    }

    private static void wedBestIs(String slices, int want) {
        DUE.is("bounds(1) of " + slices, Due.hill(slices).bounds(1), want);
    }

    private static void wedBest() {
        DUE.is("bounds(1)", new HillSlices().bounds(1), NONE);
        wedBestIs("f9f9f6", NONE);
        wedBestIs("e9f9f6", 45);
        wedBestIs("f9a9a6", 5);
        // All alike: the first by the lesser one, then by the other.
        wedBestIs("c9b9a6", 1);
        wedBestIs("d9b9c6", 12);
        // c and d are beside each other four times, all others less often.
        wedBestIs("a9b8c1d1c1d1c1b2", 23);
        // b and e, of which the one is behind the other round the end.
        wedBestIs("b1e2b1e9a9c1b1", 14);
        // Of several the first by the other one: a with c before a with d.
        wedBestIs("a6c6b6d6", 2);
    }

    private static void narrowIs(String slices, int want) {
        DUE.is("bounds(2) of " + slices, Due.hill(slices).bounds(2), want);
    }

    private static void narrow() {
        DUE.is("bounds(2)", new HillSlices().bounds(2), 24);
        narrowIs("a9b9c6", 6);
        narrowIs("a3b9b9a3", 6);
        narrowIs("a1b9b9b4a1", 2);
        narrowIs("a9b4a9b2", 2);
        narrowIs("a9b2a9b4", 2);
        narrowIs("a1b9b9b5", 1);
        narrowIs("b9b9b5a1", 1);
        narrowIs("a9a3b9b3", 12);
        narrowIs("a2a2b3c8c9", 3);
    }

    private static void wrongImages() {
        HillSlices x = new HillSlices();
        int[] wrong = {-1, 2, Integer.MIN_VALUE, Integer.MAX_VALUE};
        for (int n : wrong) {
            DUE.is("image " + n, x.image(n), OUTSIDE);
            DUE.is("restore " + n, x.restore(n), OUTSIDE);
        }
        DUE.is("restore(1)", x.restore(1), STATE);
        DUE.is("image(0)", x.image(0), 1);
        DUE.is("restore(1)", x.restore(1), STATE);
        DUE.is("restore(0)", x.restore(0), 1);
        DUE.is("restore(0), again", x.restore(0), 1);
    }

    private static void image() {
        HillSlices x = Due.hill("a9b9c6", "m9v9w6");
        Due.will(x, "b:d9");
        x.worth(2, 's', 77);
        x.toll(42);
        x.right(1, 3, true);
        DUE.is("image(1)", x.image(1), 1);
        Due.ring(x, 0, ROCK);
        x.wedding(4, 0);
        Due.slices(x, "f9f9f6");
        x.worth(2, 's', 7);
        x.toll(1);
        x.right(1, 3, false);
        x.right(5, 0, true);
        DUE.is("restore(1)", x.restore(1), 1);
        DUE.is("cell(0, 9)", x.cell(0, 9), 'v');
        DUE.is("has(0)", x.has(0), 511);
        DUE.is("has(3)", x.has(3), 511 << 9);
        DUE.is("told(1)", x.told(1), 1);
        DUE.is("was(9, 0)", x.was(9, 0), 1);
        DUE.is("was(9, 1)", x.was(9, 1), 3);
        DUE.is("told(114)", x.told(114), 77);
        DUE.is("told(2)", x.told(2), 42);
        DUE.is("told(21)", x.told(21), 8);
        DUE.is("told(25)", x.told(25), 0);
        // What is done behind it leaves the IMAGE as it was.
        x.wedding(0, 3);
        x.toll(3);
        x.restore(1);
        DUE.is("told(1)", x.told(1), 1);
        DUE.is("told(2)", x.told(2), 42);
        DUE.is("has(3)", x.has(3), 511 << 9);
    }

    private static void imageOfAllGenerations() {
        HillSlices x = new HillSlices();
        for (int generation = 1; generation <= 20; generation++) {
            x.wedding(generation % 6, (generation + 5) % 6);
        }
        x.image(0);
        Due.slices(x, "f9f9f6");
        for (int generation = 1; generation <= 20; generation++) {
            x.wedding((generation + 5) % 2, generation % 2);
        }
        x.restore(0);
        for (int generation = 0; generation <= 20; generation++) {
            DUE.is("was(0, " + generation + ")", x.was(0, generation), generation % 6);
        }
        DUE.is("has(2)", x.has(2), 16777215);
    }

    private static void imagesOfTwo() {
        HillSlices x = new HillSlices();
        x.toll(10);
        x.image(0);
        x.toll(20);
        x.image(1);
        x.toll(30);
        x.restore(0);
        DUE.is("told(2)", x.told(2), 10);
        x.restore(1);
        DUE.is("told(2)", x.told(2), 20);
        x.image(0);
        x.toll(40);
        x.restore(0);
        DUE.is("told(2)", x.told(2), 20);
    }

    private static void imageIsNotThePad() {
        HillSlices x = Due.say(new HillSlices(), "v9");
        x.image(0);
        Due.say(x, "v9w6");
        x.restore(0);
        DUE.is("told(0)", x.told(0), 6);
        DUE.is("ring(4)", x.ring(4), 3);
        x.restore(0);
        DUE.is("told(0)", x.told(0), 0);
    }

    private static void told() {
        HillSlices x = Due.hill("a9b9c4d1e1");
        int[] wrong = {-1, 3, 9, 16, 19, 26, 99, 130, Integer.MIN_VALUE, Integer.MAX_VALUE};
        for (int what : wrong) {
            DUE.is("told " + what, x.told(what), OUTSIDE);
        }
        int[] sectors = {9, 9, 4, 1, 1, 0};
        for (int heir = 0; heir < 6; heir++) {
            DUE.is("told sectors", x.told(10 + heir), sectors[heir]);
        }
        Due.say(x, "abc");
        DUE.is("told(0)", x.told(0), 3);
        x.wedding(5, 0);
        x.wedding(5, 1);
        DUE.is("told(1)", x.told(1), 2);
        DUE.is("told(15)", x.told(15), 18);
        DUE.is("told(10)", x.told(10), 0);
        x.toll(17);
        DUE.is("told(2)", x.told(2), 17);
        x.right(5, 0, true);
        x.right(5, 4, true);
        DUE.is("told(25)", x.told(25), 17);
        x.worth(5, 's', 98);
        x.worth(4, 'v', 97);
        DUE.is("told(129)", x.told(129), 98);
        DUE.is("told(120)", x.told(120), 97);
        DUE.is("told(124)", x.told(124), 1);
    }
}
