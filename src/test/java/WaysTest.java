/** Promises 17 to 22: TOLL, RIGHTS, WAYS, STONES, AVALANCHES, ROLLS. */
public final class WaysTest {
    private static final int UNKNOWN = -1, OUTSIDE = -2, STATE = -3, NONE = -6;
    private static final int[] NO_HEIR = {-1, 6, Integer.MIN_VALUE, Integer.MAX_VALUE};
    private static final int[] NO_SECTOR = {-1, 24, Integer.MIN_VALUE, Integer.MAX_VALUE};
    private static final int[] NO_RING = {-1, 5, Integer.MIN_VALUE, Integer.MAX_VALUE};
    private static final Due DUE = new Due("WaysTest");

    private WaysTest() {
    }

    public static void main(String[] args) {
        toll();
        right();
        wrongWays();
        wayOnOwn();
        wayTies();
        wayWithToll();
        wayWithRights();
        wrongStones();
        stone();
        stoneInWood();
        stoneRound();
        wrongAvalanches();
        avalanche();
        avalancheAndWood();
        avalancheRound();
        rolls();
        DUE.end();
    }

    private static void toll() {
        HillSlices x = new HillSlices();
        int[] wrong = {-1, 100, Integer.MIN_VALUE, Integer.MAX_VALUE};
        for (int v : wrong) {
            DUE.is("toll " + v, x.toll(v), OUTSIDE);
        }
        DUE.is("toll(0)", x.toll(0), 5);
        DUE.is("toll(99)", x.toll(99), 0);
        DUE.is("toll(99)", x.toll(99), 99);
        DUE.is("told(2)", x.told(2), 99);
    }

    private static void right() {
        HillSlices x = new HillSlices();
        for (int heir : NO_HEIR) {
            DUE.is("right " + heir + " 0", x.right(heir, 0, true), UNKNOWN);
            DUE.is("right 0 " + heir, x.right(0, heir, true), UNKNOWN);
        }
        DUE.is("right(2, 2)", x.right(2, 2, true), UNKNOWN);
        DUE.is("told(22)", x.told(22), 0);
        DUE.is("right(2, 5, false)", x.right(2, 5, false), 0);
        DUE.is("right(2, 5, true)", x.right(2, 5, true), 0);
        DUE.is("right(2, 5, true)", x.right(2, 5, true), 1);
        DUE.is("right(2, 0, true)", x.right(2, 0, true), 0);
        DUE.is("told(22)", x.told(22), 33);
        DUE.is("told(25)", x.told(25), 0);
        DUE.is("right(5, 2, false)", x.right(5, 2, false), 0);
        DUE.is("right(2, 5, false)", x.right(2, 5, false), 1);
        DUE.is("right(2, 5, false)", x.right(2, 5, false), 0);
        DUE.is("told(22)", x.told(22), 1);
    }

    private static void wayIs(HillSlices x, int heir, int from, int to, int... want) {
        String call = "way(" + heir + ", " + from + ", " + to + ", ";
        for (int what = 0; what < 3; what++) {
            DUE.is(call + what + ")", x.way(heir, from, to, what), want[what]);
        }
    }

    private static void wrongWays() {
        HillSlices x = new HillSlices();
        for (int heir : NO_HEIR) {
            DUE.is("way of " + heir, x.way(heir, 0, 0, 0), UNKNOWN);
            DUE.is("way of " + heir, x.way(heir, 0, 0, 9), UNKNOWN);
        }
        for (int sector : NO_SECTOR) {
            DUE.is("way from " + sector, x.way(0, sector, 0, 0), UNKNOWN);
            DUE.is("way to " + sector, x.way(0, 0, sector, 3), UNKNOWN);
        }
        int[] whats = {-1, 3, Integer.MIN_VALUE, Integer.MAX_VALUE};
        for (int what : whats) {
            DUE.is("way, what " + what, x.way(0, 0, 0, what), OUTSIDE);
        }
    }

    private static void wayOnOwn() {
        HillSlices x = new HillSlices();
        wayIs(x, 0, 7, 7, 0, 0, 1);
        wayIs(x, 5, 23, 23, 0, 0, 1);
        wayIs(x, 0, 0, 3, 18, 0, 1);
        wayIs(x, 0, 3, 0, 18, 0, 0);
        wayIs(x, 0, 23, 2, 18, 0, 1);
        wayIs(x, 0, 0, 5, 26, 4, 1);
        wayIs(x, 0, 2, 21, 26, 4, 0);
    }

    private static void wayTies() {
        HillSlices x = new HillSlices();
        // With four steps every RING costs the same: 24.
        wayIs(x, 0, 0, 4, 24, 0, 1);
        wayIs(x, 0, 0, 20, 24, 0, 0);
        // Twelve steps on both sides: rising.
        wayIs(x, 0, 0, 12, 40, 4, 1);
        wayIs(x, 0, 12, 0, 40, 4, 1);
    }

    private static void wayWithToll() {
        HillSlices x = Due.hill("a9b9a6");
        // Where it begins there is no toll, where it ends there is.
        wayIs(x, 0, 9, 8, 6, 0, 0);
        wayIs(x, 0, 8, 9, 11, 0, 1);
        wayIs(x, 1, 8, 9, 6, 0, 1);
        wayIs(x, 1, 9, 8, 11, 0, 0);
        wayIs(x, 2, 9, 8, 11, 0, 0);
        // Over nine of b's it is 16 + 20 + 45, round the other side 16 + 28.
        wayIs(x, 0, 8, 18, 16 + 2 * 14, 4, 0);
        x.toll(0);
        wayIs(x, 0, 8, 18, 36, 4, 1);
        x.toll(1);
        wayIs(x, 0, 8, 18, 44, 4, 0);
        x.toll(99);
        wayIs(x, 2, 0, 12, 16 + 24 + 12 * 99, 4, 1);
        // Four tolls of 2 make ten steps rising cost what fourteen falling do: rising.
        HillSlices y = Due.hill("a9b4a9a2");
        y.toll(2);
        wayIs(y, 0, 8, 18, 16 + 20 + 8, 4, 1);
    }

    private static void wayWithRights() {
        HillSlices x = Due.hill("a9b9c6");
        wayIs(x, 0, 8, 10, 12 + 10, 0, 1);
        x.right(0, 1, true);
        wayIs(x, 0, 8, 10, 12 + 10, 0, 1);
        x.right(1, 0, true);
        wayIs(x, 0, 8, 10, 12, 0, 1);
        wayIs(x, 2, 8, 10, 12 + 10, 0, 1);
        wayIs(x, 1, 9, 8, 6, 0, 0);
        x.right(1, 0, false);
        wayIs(x, 0, 8, 10, 12 + 10, 0, 1);
        wayIs(x, 0, 0, 23, 11, 0, 0);
        x.right(2, 0, true);
        wayIs(x, 0, 0, 23, 6, 0, 0);
        // The RIGHT is the HEIR's, not the SECTOR's: what c has now is b's behind a WEDDING.
        x.wedding(1, 2);
        wayIs(x, 0, 0, 23, 11, 0, 0);
    }

    private static void stoneIs(HillSlices x, int ring, int sector, int hit, int end) {
        String call = "stone(" + ring + ", " + sector + ", ";
        DUE.is(call + "0)", x.stone(ring, sector, 0), hit);
        DUE.is(call + "1)", x.stone(ring, sector, 1), end);
    }

    private static void wrongStones() {
        HillSlices x = new HillSlices();
        for (int ring : NO_RING) {
            DUE.is("stone of ring " + ring, x.stone(ring, 0, 0), UNKNOWN);
            DUE.is("stone of ring " + ring, x.stone(ring, 0, 7), UNKNOWN);
        }
        for (int sector : NO_SECTOR) {
            DUE.is("stone of sector " + sector, x.stone(0, sector, 0), UNKNOWN);
            DUE.is("stone of sector " + sector, x.stone(0, sector, 2), UNKNOWN);
        }
        int[] whats = {-1, 2, Integer.MIN_VALUE, Integer.MAX_VALUE};
        for (int what : whats) {
            DUE.is("stone, what " + what, x.stone(0, 0, what), OUTSIDE);
        }
    }

    private static void stone() {
        HillSlices x = Due.hill("a1b1c1d1e1f9a9f1");
        stoneIs(x, 4, 0, 1 | 2, NONE);
        stoneIs(x, 3, 0, 2, NONE);
        stoneIs(x, 2, 0, 1, NONE);
        stoneIs(x, 0, 0, 0, NONE);
        // Over rock in each ring one more sector on.
        for (int ring = 0; ring < 5; ring++) {
            Due.ring(x, ring, "r9r9r6");
        }
        stoneIs(x, 4, 0, 2 | 4 | 8 | 16, NONE);
        stoneIs(x, 1, 0, 2, NONE);
        stoneIs(x, 0, 3, 0, NONE);
        // It stops in the wood into which it comes, and hits that HEIR, too.
        Due.ring(x, 1, "r3w1r9r9r2");
        stoneIs(x, 4, 0, 2 | 4 | 8, 3);
        stoneIs(x, 4, 1, 4 | 8 | 16 | 32, NONE);
        Due.ring(x, 0, "w9w9w6");
        stoneIs(x, 4, 1, 4 | 8 | 16 | 32, 5);
        stoneIs(x, 1, 2, 8, 3);
    }

    private static void stoneInWood() {
        HillSlices x = Due.hill("a9b9c6", "v9v9v6", "v9v9v6", "w9w9w6");
        stoneIs(x, 2, 9, 0, 9);
        stoneIs(x, 4, 9, 2, 10);
        Due.ring(x, 0, "w9w9w6");
        stoneIs(x, 0, 23, 0, 23);
    }

    private static void stoneRound() {
        HillSlices x = Due.hill("a9b9c6");
        stoneIs(x, 3, 23, 1, NONE);
        stoneIs(x, 4, 23, 1 | 4, NONE);
        Due.ring(x, 2, "w9v9v6");
        stoneIs(x, 3, 23, 1, 0);
        stoneIs(x, 3, 8, 2, NONE);
    }

    private static void avalancheIs(HillSlices x, int ring, int sector, int hit, int cells) {
        String call = "avalanche(" + ring + ", " + sector + ", ";
        DUE.is(call + "0)", x.avalanche(ring, sector, 0), hit);
        DUE.is(call + "1)", x.avalanche(ring, sector, 1), cells);
    }

    private static void wrongAvalanches() {
        HillSlices x = new HillSlices();
        for (int ring : NO_RING) {
            DUE.is("avalanche of ring " + ring, x.avalanche(ring, 0, 0), UNKNOWN);
            DUE.is("avalanche of ring " + ring, x.avalanche(ring, 0, -1), UNKNOWN);
        }
        for (int sector : NO_SECTOR) {
            DUE.is("avalanche of sector " + sector, x.avalanche(4, sector, 0), UNKNOWN);
            DUE.is("avalanche of sector " + sector, x.avalanche(0, sector, 2), UNKNOWN);
        }
        int[] whats = {-1, 2, Integer.MIN_VALUE, Integer.MAX_VALUE};
        for (int what : whats) {
            DUE.is("avalanche, what " + what, x.avalanche(4, 0, what), OUTSIDE);
            DUE.is("avalanche, no snow, what " + what, x.avalanche(0, 0, what), OUTSIDE);
        }
        avalancheIs(x, 3, 0, STATE, STATE);
        avalancheIs(x, 0, 23, STATE, STATE);
    }

    private static void avalanche() {
        HillSlices x = Due.hill("a9b9c6");
        avalancheIs(x, 4, 4, 1, 25);
        avalancheIs(x, 4, 5, 1 | 2, 25);
        avalancheIs(x, 4, 8, 1 | 2, 25);
        Due.ring(x, 0, "s9s9s6");
        avalancheIs(x, 0, 4, 0, 1);
        Due.ring(x, 1, "s9s9s6");
        avalancheIs(x, 1, 4, 1, 4);
        avalancheIs(x, 1, 8, 1 | 2, 4);
    }

    private static void avalancheAndWood() {
        HillSlices x = Due.hill("a9b9c6");
        // Wood beside and below: only sector 9 is left in ring 3, and spreads again behind it.
        Due.ring(x, 3, "w9r1w9w5");
        avalancheIs(x, 4, 8, 1 | 2, 1 + 1 + 3 + 5 + 7);
        avalancheIs(x, 4, 9, 1 | 2, 1 + 1 + 3 + 5 + 7);
        avalancheIs(x, 4, 4, 0, 1);
        Due.ring(x, 2, "v9w9v6");
        avalancheIs(x, 4, 8, 1 | 2, 1 + 1 + 1 + 3 + 5);
        // Wood in the CELL of snow's own sector does not stop what comes from beside it.
        HillSlices y = Due.hill("a9b9c6", "v9v9v6", "v9v9v6", "v9v9v6", "r8w1r9r6");
        avalancheIs(y, 4, 8, 1 | 2, 1 + 2 + 5 + 7 + 9);
        // HIT are HEIRS below the CELL in which it began alone.
        HillSlices z = Due.hill("a1b9b9b5", "w9w9w6", "w9w9w6", "w9w9w6", "r1w9w9w5");
        avalancheIs(z, 4, 0, 1, 2);
        avalancheIs(z, 4, 1, 1, 2);
        avalancheIs(z, 4, 2, 0, 1);
    }

    private static void avalancheRound() {
        HillSlices x = Due.hill("a3b9b9b1c2");
        avalancheIs(x, 4, 0, 1 | 2 | 4, 25);
        avalancheIs(x, 4, 23, 1 | 2 | 4, 25);
        Due.ring(x, 3, "s9s9s6");
        Due.ring(x, 2, "v1w9w9w4v1");
        avalancheIs(x, 3, 0, 1 | 2 | 4, 1 + 2 + 4 + 6);
        avalancheIs(x, 3, 22, 2 | 4 | 1, 1 + 1 + 3 + 5);
    }

    private static void rolls() {
        HillSlices x = Due.hill("a9b9c5d1");
        DUE.is("rolls(0)", x.rolls(0), 2);
        DUE.is("rolls(1)", x.rolls(1), 4);
        DUE.is("rolls(2)", x.rolls(2), 8);
        DUE.is("rolls(3)", x.rolls(3), 1);
        DUE.is("rolls(4)", x.rolls(4), 0);
        for (int heir : NO_HEIR) {
            DUE.is("rolls " + heir, x.rolls(heir), UNKNOWN);
        }
        // Two rings of rock: over d's one sector to a.
        Due.ring(x, 2, "r9r9r6");
        DUE.is("rolls(2)", x.rolls(2), 8 | 1);
        DUE.is("rolls(3)", x.rolls(3), 1);
        // Wood below all rock lets none come farther than it.
        Due.ring(x, 2, "w9w9w6");
        DUE.is("rolls(2)", x.rolls(2), 8);
        Due.ring(x, 3, "v9v9v6");
        DUE.is("rolls(2)", x.rolls(2), 0);
        DUE.is("rolls(0)", new HillSlices().rolls(0), 0);
    }
}
