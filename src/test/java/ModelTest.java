/** Long runs of calls, each compared with what the model answers: mostly good calls, some wrong ones. */
public final class ModelTest {
    /** No answer is promised behind the last of so many calls: a run must not ask for any. */
    private static final int CALLS = 512;
    private static final int RUNS = 200, CALLS_OF_SWEEP = 132, MOST_CALLS_OF_STEP = 68;
    private static final int[] STRANGE = {-1, 24, 5, 6, 100, -2, 1000, Integer.MIN_VALUE, Integer.MAX_VALUE};
    private static final int[] ASKED_OF_CUTS = {-2, -1, 0, 1, 2, 3, 4, 9, 10, 11, 12, 13, 14};
    private static final Due DUE = new Due("ModelTest");

    /** The numbers are the same each time that the test runs. */
    private long seed;
    private int calls;
    private HillSlices x;
    private Model model;

    private ModelTest() {
    }

    public static void main(String[] args) {
        ModelTest test = new ModelTest();
        for (int run = 0; run < RUNS && !DUE.hasWrong(); run++) {
            test.run(run);
        }
        DUE.end();
    }

    private void run(int run) {
        seed = run;
        calls = 0;
        x = new HillSlices();
        model = new Model();
        boolean small = run % 2 == 0;
        while (calls <= CALLS - CALLS_OF_SWEEP - MOST_CALLS_OF_STEP && !DUE.hasWrong()) {
            int kind = number(16);
            if (kind < 4) {
                change(small);
            } else if (kind < 6) {
                text();
            } else {
                ask();
            }
        }
        sweep();
    }

    /** A number from 0 to one less than this one. */
    private int number(int below) {
        seed = seed * 6364136223846793005L + 1442695040888963407L;
        return (int) ((seed >>> 33) % below);
    }

    /** Mostly a number below this one, at times one that is none. */
    private int some(int below) {
        return number(40) == 0 ? STRANGE[number(STRANGE.length)] : number(below);
    }

    private void is(String call, int got, int want) {
        calls++;
        if (calls > CALLS) {
            DUE.is("calls of one object", calls, CALLS);
        }
        DUE.is("seed " + seed + ", call " + calls + ", " + call, got, want);
    }

    private void change(boolean small) {
        int heir = some(6);
        int other = some(6);
        switch (number(6)) {
            case 0:
                is("wedding", x.wedding(heir, other), model.wedding(heir, other));
                break;
            case 1:
            case 2:
                int sort = number(30) == 0 ? number(300) - 20 : "vwmrs".charAt(number(5));
                int v = some(small ? 3 : 100);
                is("worth " + heir + " " + sort + " " + v, x.worth(heir, sort, v), model.worth(heir, sort, v));
                break;
            case 3:
                int toll = some(small ? 4 : 100);
                is("toll " + toll, x.toll(toll), model.toll(toll));
                break;
            case 4:
                boolean has = number(3) > 0;
                is("right " + heir + " " + other, x.right(heir, other, has), model.right(heir, other, has));
                break;
            default:
                int n = some(2);
                if (number(2) == 0) {
                    is("image " + n, x.image(n), model.image(n));
                } else {
                    is("restore " + n, x.restore(n), model.restore(n));
                }
        }
    }

    /** Says a text, mostly a good one, looks for its faults, and takes it. */
    private void text() {
        int how = number(3);
        int ring = some(5);
        String text = randomText(how);
        if (number(12) == 0 && !text.isEmpty()) {
            int place = number(text.length());
            text = text.substring(0, place) + (char) (33 + number(94)) + text.substring(place + number(2));
        }
        for (char sign : text.toCharArray()) {
            is("say " + sign, x.say(sign), model.say(sign));
        }
        if (number(8) == 0) {
            int sign = number(140);
            is("say " + sign, x.say(sign), model.say(sign));
        }
        for (int any = -1; any < 4; any++) {
            is("fault " + any + " of " + text, x.fault(any), model.fault(any));
        }
        if (how == 0) {
            is("ring " + ring + " by " + text, x.ring(ring), model.ring(ring));
        } else if (how == 1) {
            is("slices by " + text, x.slices(), model.slices());
        } else {
            is("will by " + text, x.will(), model.will());
        }
        if (number(6) > 0) {
            is("wipe", x.wipe(), model.wipe());
        }
    }

    private String randomText(int how) {
        StringBuilder text = new StringBuilder();
        int left = 24;
        if (how == 2) {
            int heir = number(6);
            text.append((char) ('a' + heir)).append(':');
            left = Math.max(0, model.told(10 + heir));
        }
        // Runs of one or few sectors alone in some texts, long ones in others.
        int longest = 1 + number(9);
        String letters = how == 0 ? "vwmrs" : "abcdef";
        int kinds = 2 + number(letters.length() - 1);
        while (left > 0) {
            int length = 1 + number(Math.min(longest, left));
            text.append(letters.charAt(number(kinds))).append(length);
            left -= length;
        }
        return text.toString();
    }

    private void ask() {
        int heir = some(6);
        int ring = some(5);
        int sector = some(24);
        int other = some(24);
        int what = some(3);
        switch (number(14)) {
            case 0:
                is("cell", x.cell(ring, sector), model.cell(ring, sector));
                break;
            case 1:
                int generation = some(21);
                is("was " + sector + " " + generation, x.was(sector, generation), model.was(sector, generation));
                break;
            case 2:
                int sectors = number(30) == 0 ? 16777214 + number(4) : number(16777216);
                is("share " + heir + " " + sectors, x.share(heir, sectors), model.share(heir, sectors));
                break;
            case 3:
                is("envies " + heir, x.envies(heir), model.envies(heir));
                break;
            case 4:
                cuts(number(12) == 0 ? 4 : some(4));
                break;
            case 5:
            case 6:
                is("way " + heir + " " + sector + " " + other + " " + what, x.way(heir, sector, other, what),
                    model.way(heir, sector, other, what));
                break;
            case 7:
                is("stone " + ring + " " + sector + " " + what, x.stone(ring, sector, what),
                    model.stone(ring, sector, what));
                break;
            case 8:
            case 9:
                is("avalanche " + ring + " " + sector + " " + what, x.avalanche(ring, sector, what),
                    model.avalanche(ring, sector, what));
                break;
            case 10:
                is("rolls " + heir, x.rolls(heir), model.rolls(heir));
                break;
            case 11:
                is("fence " + heir, x.fence(heir), model.fence(heir));
                break;
            case 12:
                int year = number(3) == 0 ? some(1000) : some(30);
                int asked = number(7) == 0 ? 0 : (1 + number(2)) * 10 + some(6);
                is("spring " + sector + " " + other + " " + year + " " + asked, x.spring(sector, other, year, asked),
                    model.spring(sector, other, year, asked));
                break;
            default:
                is("bounds " + what, x.bounds(what), model.bounds(what));
        }
    }

    /** Both cuts among n, which may be wrong. */
    private void cuts(int n) {
        for (int kind = 0; kind < 2; kind++) {
            boolean fair = kind == 0;
            int[] cut = n >= 2 && n <= 4 ? model.cut(n, fair) : null;
            for (int i : ASKED_OF_CUTS) {
                int got = fair ? x.fair(n, i) : x.best(n, i);
                is((fair ? "fair " : "best ") + n + " " + i, got, Model.answer(cut, fair, n, i));
            }
        }
    }

    /** All that can be asked in few calls. */
    private void sweep() {
        for (int what = 0; what < 130 && !DUE.hasWrong(); what++) {
            if (what < 26 || what > 98) {
                is("told " + what, x.told(what), model.told(what));
            }
        }
        for (int heir = 0; heir < 6; heir++) {
            is("has " + heir, x.has(heir), model.has(heir));
            is("envies " + heir, x.envies(heir), model.envies(heir));
            is("rolls " + heir, x.rolls(heir), model.rolls(heir));
            is("fence " + heir, x.fence(heir), model.fence(heir));
        }
        for (int sector = 0; sector < 24; sector++) {
            is("cell", x.cell(sector % 5, sector), model.cell(sector % 5, sector));
            is("was", x.was(sector, 0), model.was(sector, 0));
        }
        for (int what = 0; what < 3; what++) {
            is("bounds " + what, x.bounds(what), model.bounds(what));
        }
    }
}
