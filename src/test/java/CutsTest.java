/** Promises 12 to 16: WORTHS, SHARES, who ENVIES whom, FAIR CUTS and BEST CUTS. */
public final class CutsTest {
    private static final int UNKNOWN = -1, OUTSIDE = -2, NONE = -6;
    private static final int ALL = 16777215;
    private static final String ROCK = "r9r9r6";
    private static final int[] NO_HEIR = {-1, 6, Integer.MIN_VALUE, Integer.MAX_VALUE};
    private static final Due DUE = new Due("CutsTest");

    private CutsTest() {
    }

    public static void main(String[] args) {
        worth();
        share();
        envies();
        wrongCuts();
        fairFirstByBounds();
        fairFirstByHeirs();
        fairNone();
        fairOfZero();
        best();
        bestOfZero();
        cutsFollowChanges();
        DUE.end();
    }

    private static void cutIs(HillSlices x, boolean fair, int n, int... want) {
        String call = (fair ? "fair(" : "best(") + n + ", ";
        DUE.is(call + "-1)", answer(x, fair, n, -1), want[0]);
        for (int i = 0; i < n; i++) {
            DUE.is(call + i + ")", answer(x, fair, n, i), want[1 + i]);
            DUE.is(call + (10 + i) + ")", answer(x, fair, n, 10 + i), want[1 + n + i]);
        }
        int[] others = {n, 9, 10 + n, 14, -2, 100, Integer.MIN_VALUE, Integer.MAX_VALUE};
        for (int i : others) {
            DUE.is(call + i + ")", answer(x, fair, n, i), NONE);
        }
    }

    private static int answer(HillSlices x, boolean fair, int n, int i) {
        return fair ? x.fair(n, i) : x.best(n, i);
    }

    /** Only vines in ring 0 are worth something to these heirs. */
    private static HillSlices vinesAt(String ring0) {
        return Due.hill("a9a9a6", ring0, ROCK, ROCK, ROCK, ROCK);
    }

    private static void worth() {
        HillSlices x = new HillSlices();
        for (int heir : NO_HEIR) {
            DUE.is("worth of " + heir, x.worth(heir, 'v', 1), UNKNOWN);
            DUE.is("worth of " + heir + ", outside", x.worth(heir, 'x', -1), UNKNOWN);
        }
        int[] sorts = {'a', 'V', 0, -1, 'v' + 65536, 'v' + 256, Integer.MIN_VALUE, Integer.MAX_VALUE, 32, 127};
        for (int sort : sorts) {
            DUE.is("worth of sort " + sort, x.worth(0, sort, 1), OUTSIDE);
        }
        int[] values = {-1, 100, Integer.MIN_VALUE, Integer.MAX_VALUE};
        for (int v : values) {
            DUE.is("worth " + v, x.worth(0, 'v', v), OUTSIDE);
        }
        DUE.is("told(100)", x.told(100), 10);
        int[] before = {10, 4, 3, 0, 1};
        for (int sort = 0; sort < 5; sort++) {
            int code = "vwmrs".charAt(sort);
            DUE.is("worth(3)", x.worth(3, code, 99), before[sort]);
            DUE.is("worth(3)", x.worth(3, code, 0), 99);
            DUE.is("worth(3)", x.worth(3, code, 50 + sort), 0);
            DUE.is("told", x.told(115 + sort), 50 + sort);
            DUE.is("told of another", x.told(110 + sort), before[sort]);
        }
    }

    private static void share() {
        HillSlices x = new HillSlices();
        DUE.is("share(0, 0)", x.share(0, 0), 0);
        DUE.is("share(0, 1)", x.share(0, 1), 24);
        DUE.is("share(5, ALL)", x.share(5, ALL), 576);
        DUE.is("share(0, 1 << 23)", x.share(0, 1 << 23), 24);
        for (int heir : NO_HEIR) {
            DUE.is("share of " + heir, x.share(heir, 1), UNKNOWN);
            DUE.is("share of " + heir, x.share(heir, -1), UNKNOWN);
        }
        int[] wrong = {-1, ALL + 1, Integer.MIN_VALUE, Integer.MAX_VALUE};
        for (int sectors : wrong) {
            DUE.is("share of sectors " + sectors, x.share(0, sectors), OUTSIDE);
        }
        Due.ring(x, 0, "w1s1v9v9v4");
        x.worth(2, 'w', 99);
        x.worth(2, 's', 7);
        DUE.is("share(2, 1)", x.share(2, 1), 99 + 10 + 3 + 0 + 7);
        DUE.is("share(2, 2)", x.share(2, 2), 7 + 10 + 3 + 0 + 7);
        DUE.is("share(2, 3)", x.share(2, 3), 119 + 27);
        DUE.is("share(0, 2)", x.share(0, 2), 1 + 10 + 3 + 0 + 1);
    }

    private static void envies() {
        HillSlices x = Due.hill("a5b6c6d7");
        DUE.is("envies(0)", x.envies(0), 2 | 4 | 8);
        DUE.is("envies(1)", x.envies(1), 8);
        DUE.is("envies(2)", x.envies(2), 8);
        DUE.is("envies(3)", x.envies(3), 0);
        DUE.is("envies(4)", x.envies(4), 15);
        for (int heir : NO_HEIR) {
            DUE.is("envies " + heir, x.envies(heir), UNKNOWN);
        }
        for (int sort = 0; sort < 5; sort++) {
            x.worth(4, "vwmrs".charAt(sort), 0);
        }
        DUE.is("envies(4), all worth nothing", x.envies(4), 0);
        Due.ring(x, 0, "s5v9v9v1");
        x.worth(0, 's', 99);
        DUE.is("envies(0), snow", x.envies(0), 0);
    }

    private static void wrongCuts() {
        HillSlices x = new HillSlices();
        int[] wrong = {1, 5, 0, -2, Integer.MIN_VALUE, Integer.MAX_VALUE};
        for (int n : wrong) {
            DUE.is("fair " + n, x.fair(n, -1), OUTSIDE);
            DUE.is("fair " + n, x.fair(n, 99), OUTSIDE);
            DUE.is("best " + n, x.best(n, -1), OUTSIDE);
            DUE.is("best " + n, x.best(n, 99), OUTSIDE);
        }
    }

    private static void fairFirstByBounds() {
        cutIs(new HillSlices(), true, 2, 1, 0, 12, 0, 1);
        cutIs(new HillSlices(), true, 3, 1, 0, 8, 16, 0, 1, 2);
        cutIs(new HillSlices(), true, 4, 1, 0, 6, 12, 18, 0, 1, 2, 3);
        // Vines in sectors 3 and 10: one each, and an arc from 0 on can end behind 3 at the earliest.
        cutIs(vinesAt("r3v1r6v1r9r4"), true, 2, 1, 0, 4, 0, 1);
        // Vines in sectors 0 and 1 alone: bounds at 0 and 1 already cut them.
        cutIs(vinesAt("v2r9r9r4"), true, 2, 1, 0, 1, 0, 1);
        // Vines in sectors 23, 0 and 1: with a bound at 0 the arc that goes on past 23 has too much or too little.
        HillSlices x = vinesAt("v2r9r9r3v1");
        Due.ring(x, 1, "r9r9r5v1");
        cutIs(x, true, 2, 1, 0, 2, 0, 1);
        // Only bounds that leave 23 and 0 apart, with 11 on the other side of neither, can stand.
        cutIs(vinesAt("v1r9r1v1r9r2v1"), true, 3, 1, 0, 1, 12, 0, 1, 2);
    }

    private static void fairFirstByHeirs() {
        // Vines in sector 0, wood in sector 1; a wants wood alone, b vines alone.
        HillSlices x = vinesAt("v1w1r9r9r4");
        x.worth(0, 'v', 0);
        x.worth(1, 'w', 0);
        cutIs(x, true, 2, 1, 0, 1, 1, 0);
        // c does not care, and has the first arc; a and b have one each as soon as a has as much wood as b.
        HillSlices y = Due.hill("a9a9a6", "w9r9v6", ROCK, ROCK, ROCK, ROCK);
        y.worth(0, 'v', 0);
        y.worth(1, 'w', 0);
        y.worth(2, 'v', 0);
        y.worth(2, 'w', 0);
        cutIs(y, true, 3, 1, 0, 1, 5, 2, 0, 1);
        // c does not care for vines, of which a and b have two each: c has an arc all the same.
        HillSlices z = vinesAt("v4r9r9r2");
        z.worth(2, 'v', 0);
        cutIs(z, true, 3, 1, 0, 2, 4, 0, 1, 2);
    }

    private static void fairNone() {
        int none = NONE;
        HillSlices x = vinesAt("r5v1r9r9");
        cutIs(x, true, 2, none, none, none, none, none);
        cutIs(x, true, 3, none, none, none, none, none, none, none);
        cutIs(x, true, 4, none, none, none, none, none, none, none, none, none);
        // Two vines can serve two, not three.
        HillSlices y = vinesAt("r5v1r9v1r8");
        cutIs(y, true, 2, 1, 0, 6, 0, 1);
        cutIs(y, true, 3, none, none, none, none, none, none, none);
    }

    private static void fairOfZero() {
        cutIs(vinesAt(ROCK), true, 4, 1, 0, 1, 2, 3, 0, 1, 2, 3);
    }

    private static void best() {
        cutIs(new HillSlices(), false, 2, 288, 0, 12, 0, 1);
        cutIs(new HillSlices(), false, 3, 192, 0, 8, 16, 0, 1, 2);
        cutIs(new HillSlices(), false, 4, 144, 0, 6, 12, 18, 0, 1, 2, 3);
        // Vines in sectors 3 and 10, 10 each.
        cutIs(vinesAt("r3v1r6v1r9r4"), false, 2, 10, 0, 4, 0, 1);
        // a wants wood (0 to 8), b vines (9 to 23).
        HillSlices x = vinesAt("w9v9v6");
        x.worth(0, 'v', 0);
        x.worth(1, 'w', 0);
        x.worth(0, 'w', 50);
        x.worth(1, 'v', 30);
        cutIs(x, false, 2, 450, 0, 9, 0, 1);
        cutIs(vinesAt("v2r9r9r2v2"), false, 2, 20, 0, 2, 0, 1);
        cutIs(vinesAt("v1r9r9r2v3"), false, 2, 20, 0, 22, 0, 1);
        // a wants the wood in 23 and 0, so its arc must go on past 23.
        HillSlices y = vinesAt("w1v9v9v4w1");
        y.worth(0, 'v', 0);
        y.worth(1, 'w', 0);
        y.worth(0, 'w', 99);
        cutIs(y, false, 2, 198, 1, 21, 1, 0);
        // The least share is a's, whichever of b and c has which arc: b has the first one of them.
        HillSlices z = vinesAt("w1v9v9v5");
        z.worth(0, 'v', 0);
        z.worth(0, 'w', 1);
        z.worth(1, 'w', 0);
        z.worth(2, 'w', 0);
        cutIs(z, false, 3, 1, 0, 1, 2, 0, 1, 2);
    }

    private static void bestOfZero() {
        cutIs(vinesAt("r5v1r9r9"), false, 2, 0, 0, 1, 0, 1);
        cutIs(vinesAt("r5v1r9r9"), false, 3, 0, 0, 1, 2, 0, 1, 2);
        cutIs(vinesAt("r5v1r9r9"), false, 4, 0, 0, 1, 2, 3, 0, 1, 2, 3);
    }

    /** What was found once must not stand when RINGS or WORTHS are others. */
    private static void cutsFollowChanges() {
        HillSlices x = vinesAt("r5v1r9r9");
        x.image(0);
        DUE.is("fair(2, -1)", x.fair(2, -1), NONE);
        DUE.is("best(2, -1)", x.best(2, -1), 0);
        x.worth(1, 'r', 1);
        DUE.is("worth, fair(2, -1)", x.fair(2, -1), 1);
        DUE.is("worth, best(2, -1)", x.best(2, -1), 10);
        Due.ring(x, 0, "v9v9v6");
        DUE.is("ring, best(2, -1)", x.best(2, -1), 140);
        DUE.is("ring, best(2, 1)", x.best(2, 1), 10);
        DUE.is("ring, best(2, 10)", x.best(2, 10), 1);
        DUE.is("ring, fair(2, 1)", x.fair(2, 1), 12);
        x.restore(0);
        DUE.is("restore, fair(2, -1)", x.fair(2, -1), NONE);
        DUE.is("restore, best(2, -1)", x.best(2, -1), 0);
        DUE.is("fair(3, -1)", x.fair(3, -1), NONE);
        DUE.is("slices do not matter", Due.slices(x, "b9c9d6"), 3);
        DUE.is("best(2, 1)", x.best(2, 1), 1);
    }
}
