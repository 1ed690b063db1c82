/** Promises 1 to 11: the hill, texts, SLICES, WILLS and WEDDINGS. */
public final class HillTest {
    private static final int UNKNOWN = -1, OUTSIDE = -2, FULL = -4, NO = -5, NONE = -6;
    private static final int ALL = 16777215;
    private static final Due DUE = new Due("HillTest");

    private HillTest() {
    }

    public static void main(String[] args) {
        newObject();
        say();
        wipe();
        faultOfRing();
        faultOfSlices();
        faultOfWill();
        ring();
        slices();
        will();
        willOfOneWithNone();
        willsFull();
        wedding();
        weddingsFull();
        cell();
        was();
        has();
        DUE.end();
    }

    private static void newObject() {
        HillSlices x = new HillSlices();
        DUE.is("has(0)", x.has(0), ALL);
        for (int heir = 1; heir < 6; heir++) {
            DUE.is("has", x.has(heir), 0);
        }
        String sorts = "vvmrs";
        for (int ring = 0; ring < 5; ring++) {
            for (int sector = 0; sector < 24; sector++) {
                DUE.is("cell", x.cell(ring, sector), sorts.charAt(ring));
            }
        }
        int[] worths = {10, 4, 3, 0, 1};
        for (int i = 0; i < 30; i++) {
            DUE.is("told worth", x.told(100 + i), worths[i % 5]);
        }
        for (int heir = 0; heir < 6; heir++) {
            DUE.is("told rights", x.told(20 + heir), 0);
        }
        DUE.is("told(0)", x.told(0), 0);
        DUE.is("told(1)", x.told(1), 0);
        DUE.is("told(2)", x.told(2), 5);
        DUE.is("restore(0)", x.restore(0), -3);
        DUE.is("restore(1)", x.restore(1), -3);
    }

    private static void say() {
        HillSlices x = new HillSlices();
        int[] wrong = {32, 127, 0, -1, 97 + 65536, Integer.MIN_VALUE, Integer.MAX_VALUE};
        for (int sign : wrong) {
            DUE.is("say " + sign, x.say(sign), OUTSIDE);
        }
        DUE.is("told(0)", x.told(0), 0);
        DUE.is("say(33)", x.say(33), 1);
        DUE.is("say(126)", x.say(126), 2);
        for (int count = 3; count <= 60; count++) {
            DUE.is("say", x.say('a'), count);
        }
        DUE.is("say, full", x.say('a'), FULL);
        DUE.is("say, full and outside", x.say(32), OUTSIDE);
        DUE.is("told(0)", x.told(0), 60);
        DUE.is("wipe()", x.wipe(), 60);
        DUE.is("say(97)", x.say('a'), 1);
    }

    private static void wipe() {
        HillSlices x = new HillSlices();
        DUE.is("wipe()", x.wipe(), 0);
        Due.say(x, "v9");
        DUE.is("wipe()", x.wipe(), 2);
        DUE.is("told(0)", x.told(0), 0);
        DUE.is("fault(0)", x.fault(0), 0);
        DUE.is("wipe()", x.wipe(), 0);
    }

    private static void faultIs(HillSlices x, int how, String text, int want) {
        Due.say(x, text);
        DUE.is("fault(" + how + ") of " + text, x.fault(how), want);
        DUE.is("wipe()", x.wipe(), text.length());
    }

    private static void faultOfRing() {
        HillSlices x = new HillSlices();
        int[] wrong = {-1, 3, Integer.MIN_VALUE, Integer.MAX_VALUE};
        for (int how : wrong) {
            DUE.is("fault " + how, x.fault(how), OUTSIDE);
        }
        faultIs(x, 0, "", 0);
        faultIs(x, 0, "v9w9m6", NONE);
        faultIs(x, 0, "r9s9v5w1", NONE);
        faultIs(x, 0, "v1w1m1r1s1v1w1m1r1s1v1w1m1r1s1v1w1m1r1s1v1w1m1r1", NONE);
        faultIs(x, 0, "v9v9v7", 5);
        faultIs(x, 0, "v9v9v5", 6);
        faultIs(x, 0, "v9v9v", 5);
        faultIs(x, 0, "v", 1);
        faultIs(x, 0, "v0", 1);
        faultIs(x, 0, "v:", 1);
        faultIs(x, 0, "v/", 1);
        faultIs(x, 0, "vv", 1);
        faultIs(x, 0, "9v", 0);
        faultIs(x, 0, "a9", 0);
        faultIs(x, 0, "V9", 0);
        faultIs(x, 0, "v9x", 2);
        faultIs(x, 0, "v9v9v6v", 6);
        faultIs(x, 0, "v9v9v66", 6);
        faultIs(x, 0, "v9v9v6v1v1", 6);
        faultIs(x, 0, "v9v9v5v2", 7);
    }

    private static void faultOfSlices() {
        HillSlices x = new HillSlices();
        faultIs(x, 1, "", 0);
        faultIs(x, 1, "a9b9f6", NONE);
        faultIs(x, 1, "a9g9f6", 2);
        faultIs(x, 1, "v9", 0);
        faultIs(x, 1, "a9b9f7", 5);
        faultIs(x, 1, "a9b9c5d", 7);
        faultIs(x, 1, "a9b9c6d1", 6);
        faultIs(x, 1, "a:a9", 1);
    }

    private static void faultOfWill() {
        HillSlices x = Due.hill("a9a9b6");
        faultIs(x, 2, "", 0);
        faultIs(x, 2, "g", 0);
        faultIs(x, 2, "b", 1);
        faultIs(x, 2, "bb", 1);
        faultIs(x, 2, "b;c6", 1);
        faultIs(x, 2, "b:", 2);
        faultIs(x, 2, "b:c6", NONE);
        faultIs(x, 2, "b:c5", 4);
        faultIs(x, 2, "b:c7", 3);
        faultIs(x, 2, "b:c5d2", 5);
        faultIs(x, 2, "b:c5d1e", 6);
        faultIs(x, 2, "b:c5g1", 4);
        faultIs(x, 2, "b:c5d0", 5);
        faultIs(x, 2, "a:c9d9", NONE);
        faultIs(x, 2, "a:c9d8", 6);
        faultIs(x, 2, "c:", NONE);
        faultIs(x, 2, "c", 1);
        faultIs(x, 2, "c:a", 2);
        faultIs(x, 2, "c:a1", 2);
    }

    private static void ring() {
        HillSlices x = new HillSlices();
        int[] wrong = {-1, 5, Integer.MIN_VALUE, Integer.MAX_VALUE};
        Due.say(x, "v9v9v6");
        for (int ring : wrong) {
            DUE.is("ring " + ring, x.ring(ring), UNKNOWN);
        }
        DUE.is("told(0)", x.told(0), 6);
        x.wipe();
        DUE.is("ring(0), empty", x.ring(0), NO);
        DUE.is("ring(5), empty", x.ring(5), UNKNOWN);
        DUE.is("ring(4)", Due.ring(x, 4, "v1w2m3r4s5s9"), 6);
        DUE.is("told(0)", x.told(0), 0);
        String sorts = "vwwmmmrrrrssssssssssssss";
        for (int sector = 0; sector < 24; sector++) {
            DUE.is("cell 4", x.cell(4, sector), sorts.charAt(sector));
            DUE.is("cell 3", x.cell(3, sector), 'r');
        }
        DUE.is("ring(4), slices", Due.ring(x, 4, "a9a9a6"), NO);
        DUE.is("told(0)", x.told(0), 6);
        DUE.is("cell(4, 0)", x.cell(4, 0), 'v');
        x.wipe();
        DUE.is("ring(0)", Due.ring(x, 0, "w9w9w6"), 3);
        DUE.is("cell(0, 23)", x.cell(0, 23), 'w');
    }

    private static void slices() {
        HillSlices x = new HillSlices();
        DUE.is("slices(), empty", x.slices(), NO);
        DUE.is("slices()", Due.slices(x, "f9a9f5b1"), 4);
        DUE.is("told(0)", x.told(0), 0);
        DUE.is("has(5)", x.has(5), 511 | 31 << 18);
        DUE.is("has(0)", x.has(0), 511 << 9);
        DUE.is("has(1)", x.has(1), 1 << 23);
        x.wedding(2, 5);
        DUE.is("told(1)", x.told(1), 1);
        DUE.is("slices(), a ring", Due.slices(x, "v9v9v6"), NO);
        DUE.is("told(0)", x.told(0), 6);
        DUE.is("told(1)", x.told(1), 1);
        DUE.is("has(2)", x.has(2), 511 | 31 << 18);
        x.wipe();
        DUE.is("slices()", Due.slices(x, "b9b9b6"), 3);
        DUE.is("told(1)", x.told(1), 0);
        DUE.is("was(0, 0)", x.was(0, 0), 1);
        DUE.is("was(0, 1)", x.was(0, 1), OUTSIDE);
    }

    private static void will() {
        HillSlices x = Due.hill("a2b2a2b2a9b7");
        DUE.is("will(), empty", x.will(), NO);
        DUE.is("will(), too few", Due.will(x, "a:c9"), NO);
        DUE.is("told(0)", x.told(0), 4);
        DUE.is("told(1)", x.told(1), 0);
        x.wipe();
        DUE.is("will()", Due.will(x, "a:c3d1a1b1e7"), 1);
        DUE.is("told(0)", x.told(0), 0);
        String owners = "ccbbcdbbabeeeeeeebbbbbbb";
        for (int sector = 0; sector < 24; sector++) {
            DUE.is("was " + sector, x.was(sector, 1), owners.charAt(sector) - 'a');
        }
        DUE.is("will() to itself", Due.will(x, "e:e7"), 2);
        DUE.is("has(4)", x.has(4), 127 << 10);
        DUE.is("told(1)", x.told(1), 2);
        HillSlices y = new HillSlices();
        DUE.is("will() of all", Due.will(y, "a:a1b1a1b1a1b1a1b1a1b1a1b1a1b1a1b1a1b1a1b1a1b1a1b1"), 1);
        DUE.is("has(1)", y.has(1), 0xAAAAAA);
    }

    private static void willOfOneWithNone() {
        HillSlices x = new HillSlices();
        DUE.is("will() of none, too many", Due.will(x, "b:a1"), NO);
        x.wipe();
        DUE.is("will() of none", Due.will(x, "b:"), 1);
        DUE.is("has(0)", x.has(0), ALL);
        DUE.is("was(3, 1)", x.was(3, 1), 0);
    }

    private static void willsFull() {
        HillSlices x = new HillSlices();
        for (int generation = 1; generation <= 20; generation++) {
            DUE.is("will()", Due.will(x, "c:"), generation);
        }
        DUE.is("will(), full and a fault", x.will(), FULL);
        DUE.is("will(), full", Due.will(x, "c:"), FULL);
        DUE.is("told(0)", x.told(0), 2);
        DUE.is("fault(2)", x.fault(2), NONE);
        DUE.is("wedding, full", x.wedding(0, 1), FULL);
        x.wipe();
        DUE.is("slices()", Due.slices(x, "a9a9a6"), 3);
        DUE.is("will()", Due.will(x, "c:"), 1);
    }

    private static void wedding() {
        HillSlices x = Due.hill("a6b6c6a6");
        int[][] wrong = {{0, 0}, {5, 5}, {-1, 0}, {0, -1}, {6, 0}, {0, 6}, {Integer.MIN_VALUE, 0}, {0, Integer.MAX_VALUE}};
        for (int[] two : wrong) {
            DUE.is("wedding " + two[0] + " " + two[1], x.wedding(two[0], two[1]), UNKNOWN);
        }
        DUE.is("told(1)", x.told(1), 0);
        DUE.is("wedding(1, 0)", x.wedding(1, 0), 1);
        DUE.is("has(0)", x.has(0), 0);
        DUE.is("has(1)", x.has(1), 0xFC0FFF);
        DUE.is("has(2)", x.has(2), 63 << 12);
        DUE.is("wedding(3, 4), none", x.wedding(3, 4), 2);
        DUE.is("wedding(3, 2)", x.wedding(3, 2), 3);
        DUE.is("has(3)", x.has(3), 63 << 12);
        DUE.is("was(12, 2)", x.was(12, 2), 2);
    }

    private static void weddingsFull() {
        HillSlices x = new HillSlices();
        for (int generation = 1; generation <= 20; generation++) {
            DUE.is("wedding", x.wedding(generation & 1, 1 - (generation & 1)), generation);
        }
        DUE.is("wedding, full and one", x.wedding(1, 1), UNKNOWN);
        DUE.is("wedding, full", x.wedding(1, 0), FULL);
        DUE.is("has(0)", x.has(0), ALL);
        for (int generation = 0; generation <= 20; generation++) {
            DUE.is("was", x.was(23, generation), generation & 1);
        }
    }

    private static void cell() {
        HillSlices x = new HillSlices();
        int[][] wrong = {{-1, 0}, {5, 0}, {0, -1}, {0, 24}, {Integer.MIN_VALUE, 0}, {0, Integer.MAX_VALUE}};
        for (int[] place : wrong) {
            DUE.is("cell " + place[0] + " " + place[1], x.cell(place[0], place[1]), UNKNOWN);
        }
        DUE.is("cell(4, 23)", x.cell(4, 23), 115);
        DUE.is("cell(0, 0)", x.cell(0, 0), 118);
    }

    private static void was() {
        HillSlices x = Due.hill("a9b9c6");
        DUE.is("was(23, 0)", x.was(23, 0), 2);
        DUE.is("was(-1, 0)", x.was(-1, 0), UNKNOWN);
        DUE.is("was(24, 0)", x.was(24, 0), UNKNOWN);
        DUE.is("was(24, -1)", x.was(24, -1), UNKNOWN);
        DUE.is("was(0, -1)", x.was(0, -1), OUTSIDE);
        DUE.is("was(0, 1)", x.was(0, 1), OUTSIDE);
        DUE.is("was(0, max)", x.was(0, Integer.MAX_VALUE), OUTSIDE);
        Due.will(x, "c:d6");
        x.wedding(0, 1);
        DUE.is("was(20, 0)", x.was(20, 0), 2);
        DUE.is("was(20, 1)", x.was(20, 1), 3);
        DUE.is("was(20, 2)", x.was(20, 2), 3);
        DUE.is("was(10, 1)", x.was(10, 1), 1);
        DUE.is("was(10, 2)", x.was(10, 2), 0);
        DUE.is("was(10, 3)", x.was(10, 3), OUTSIDE);
    }

    private static void has() {
        HillSlices x = Due.hill("f1e2d3c4b5a9");
        int[] want = {511 << 15, 31 << 10, 15 << 6, 7 << 3, 3 << 1, 1};
        for (int heir = 0; heir < 6; heir++) {
            DUE.is("has", x.has(heir), want[heir]);
        }
        int[] wrong = {-1, 6, Integer.MIN_VALUE, Integer.MAX_VALUE};
        for (int heir : wrong) {
            DUE.is("has " + heir, x.has(heir), UNKNOWN);
        }
    }
}
