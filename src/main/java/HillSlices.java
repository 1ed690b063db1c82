/**
 * The slice to the top: a round mountain of rings and sectors, the heirs who have slices of it, and
 * what follows from that. What every call promises stands in ../shared/DOC.md; words in capitals
 * in these comments are told there.
 */
public final class HillSlices {
    public static final int NONE = -6, UNKNOWN = -1, OUTSIDE = -2, STATE = -3, FULL = -4, NO = -5;

    private static final int RINGS = 5, SECTORS = 24, CELLS = RINGS * SECTORS;
    private static final int HEIRS = 6, SORTS = 5, IMAGES = 2;
    private static final int VINES = 0, WOOD = 1, MEADOW = 2, ROCK = 3, SNOW = 4;
    private static final int[] FIRST_SORTS = {VINES, VINES, MEADOW, ROCK, SNOW};
    private static final int[] FIRST_WORTHS = {10, 4, 3, 0, 1};
    private static final int FIRST_TOLL = 5;
    private static final String SORT_LETTERS = "vwmrs", HEIR_LETTERS = "abcdef";
    private static final int FIRST_SIGN = 33, LAST_SIGN = 126, MOST_SIGNS = 60;
    private static final int AS_RING = 0, AS_SLICES = 1, AS_WILL = 2;
    private static final int MOST_GENERATIONS = 20, MOST_WORTH = 99, MOST_TOLL = 99, MOST_YEARS = 999;
    private static final int LEAST_ARCS = 2, MOST_ARCS = 4;
    private static final int ALL_SECTORS = (1 << SECTORS) - 1;
    /** More than anything here can cost or be worth. */
    private static final int BEYOND = 1 << 30;

    private final Pad pad = new Pad();
    private final Hill hill = new Hill();
    private final Hill[] images = new Hill[IMAGES];
    private final Cut fairCut = new Cut(true);
    private final Cut bestCut = new Cut(false);
    private final Fence leastFence = new Fence();

    public HillSlices() {
    }

    // ---- 1 the hill, slices

    public int say(int sign) {
        if (sign < FIRST_SIGN || sign > LAST_SIGN) {
            return OUTSIDE;
        }
        return pad.add((char) sign);
    }

    public int wipe() {
        return pad.empty();
    }

    public int fault(int how) {
        if (how < AS_RING || how > AS_WILL) {
            return OUTSIDE;
        }
        return faultAs(how);
    }

    public int ring(int ring) {
        if (!isRing(ring)) {
            return UNKNOWN;
        }
        if (faultAs(AS_RING) != NONE) {
            return NO;
        }
        hill.setRing(ring, pad.readRuns(SORT_LETTERS, 0));
        forgetCuts();
        return pad.empty() / Pad.SIGNS_OF_RUN;
    }

    public int slices() {
        if (faultAs(AS_SLICES) != NONE) {
            return NO;
        }
        hill.setSlices(pad.readRuns(HEIR_LETTERS, 0));
        return pad.empty() / Pad.SIGNS_OF_RUN;
    }

    public int will() {
        if (hill.generation >= MOST_GENERATIONS) {
            return FULL;
        }
        if (faultAs(AS_WILL) != NONE) {
            return NO;
        }
        int heir = pad.letterAt(0, HEIR_LETTERS);
        hill.beginGeneration();
        hill.giveAway(heir, pad.readRuns(HEIR_LETTERS, Pad.SIGNS_BEFORE_RUNS));
        pad.empty();
        return hill.generation;
    }

    public int wedding(int heir, int other) {
        if (!areTwoHeirs(heir, other)) {
            return UNKNOWN;
        }
        if (hill.generation >= MOST_GENERATIONS) {
            return FULL;
        }
        hill.beginGeneration();
        hill.join(heir, other);
        return hill.generation;
    }

    public int cell(int ring, int sector) {
        if (!isRing(ring) || !isSector(sector)) {
            return UNKNOWN;
        }
        return SORT_LETTERS.charAt(hill.sortAt(ring, sector));
    }

    public int was(int sector, int generation) {
        if (!isSector(sector)) {
            return UNKNOWN;
        }
        if (generation < 0 || generation > hill.generation) {
            return OUTSIDE;
        }
        return hill.ownerBehind(generation, sector);
    }

    public int has(int heir) {
        return isHeir(heir) ? hill.sectorsOf(heir) : UNKNOWN;
    }

    // ---- 2 worths, cuts

    public int worth(int heir, int sort, int v) {
        if (!isHeir(heir)) {
            return UNKNOWN;
        }
        int index = sortOfCode(sort);
        if (index < 0 || v < 0 || v > MOST_WORTH) {
            return OUTSIDE;
        }
        forgetCuts();
        return hill.setWorth(heir, index, v);
    }

    public int share(int heir, int sectors) {
        if (!isHeir(heir)) {
            return UNKNOWN;
        }
        if (sectors < 0 || sectors > ALL_SECTORS) {
            return OUTSIDE;
        }
        return hill.shareOf(heir, sectors);
    }

    public int envies(int heir) {
        if (!isHeir(heir)) {
            return UNKNOWN;
        }
        int own = hill.shareOf(heir, hill.sectorsOf(heir));
        int envied = 0;
        for (int other = 0; other < HEIRS; other++) {
            if (hill.shareOf(heir, hill.sectorsOf(other)) > own) {
                envied |= 1 << other;
            }
        }
        return envied;
    }

    public int fair(int n, int i) {
        return answerOfCut(fairCut, n, i);
    }

    public int best(int n, int i) {
        return answerOfCut(bestCut, n, i);
    }

    // ---- 3 ways, what falls

    public int toll(int v) {
        if (v < 0 || v > MOST_TOLL) {
            return OUTSIDE;
        }
        int before = hill.toll;
        hill.toll = v;
        return before;
    }

    public int right(int heir, int to, boolean has) {
        if (!areTwoHeirs(heir, to)) {
            return UNKNOWN;
        }
        return hill.setRight(heir, to, has) ? 1 : 0;
    }

    public int way(int heir, int from, int to, int what) {
        if (!isHeir(heir) || !isSector(from) || !isSector(to)) {
            return UNKNOWN;
        }
        if (what < 0 || what > 2) {
            return OUTSIDE;
        }
        return bestWay(heir, from, to, what);
    }

    public int stone(int ring, int sector, int what) {
        if (!isRing(ring) || !isSector(sector)) {
            return UNKNOWN;
        }
        if (what < 0 || what > 1) {
            return OUTSIDE;
        }
        return what == 0 ? hitByStone(ring, sector) : endOfStone(ring, sector);
    }

    public int avalanche(int ring, int sector, int what) {
        if (!isRing(ring) || !isSector(sector)) {
            return UNKNOWN;
        }
        if (what < 0 || what > 1) {
            return OUTSIDE;
        }
        if (hill.sortAt(ring, sector) != SNOW) {
            return STATE;
        }
        return runOfAvalanche(ring, sector, what);
    }

    public int rolls(int heir) {
        if (!isHeir(heir)) {
            return UNKNOWN;
        }
        int hit = 0;
        for (int sector = 0; sector < SECTORS; sector++) {
            if (hill.ownerOf(sector) == heir) {
                for (int ring = 0; ring < RINGS; ring++) {
                    hit |= hitByStone(ring, sector);
                }
            }
        }
        return hit & ~(1 << heir);
    }

    // ---- 4 fences, springs

    public int fence(int heir) {
        return isHeir(heir) ? leastFence.lengthFor(heir, hill) : UNKNOWN;
    }

    public int spring(int sector, int goes, int year, int what) {
        if (!isSector(sector)) {
            return UNKNOWN;
        }
        if (goes < 0 || goes >= SECTORS || year < 0 || year > MOST_YEARS) {
            return OUTSIDE;
        }
        if (what == 0) {
            return hill.ownerOf((sector + goes * year) % SECTORS);
        }
        if (what >= 10 && what < 10 + HEIRS) {
            return yearsOfSpring(sector, goes, year, what - 10);
        }
        if (what >= 20 && what < 20 + HEIRS) {
            return firstYearOfSpring(sector, goes, year, what - 20);
        }
        return OUTSIDE;
    }

    public int bounds(int what) {
        switch (what) {
            case 0:
                // An HEIR taken for itself: the SLICES as they are.
                return boundsAsOne(0, 0);
            case 1:
                return bestWedding();
            case 2:
                return narrowestPiece();
            default:
                return OUTSIDE;
        }
    }

    public int image(int n) {
        if (!isImage(n)) {
            return OUTSIDE;
        }
        if (images[n] == null) {
            images[n] = new Hill();
        }
        images[n].copyFrom(hill);
        return 1;
    }

    public int restore(int n) {
        if (!isImage(n)) {
            return OUTSIDE;
        }
        if (images[n] == null) {
            return STATE;
        }
        hill.copyFrom(images[n]);
        forgetCuts();
        return 1;
    }

    public int told(int what) {
        if (what == 0) {
            return pad.count;
        }
        if (what == 1) {
            return hill.generation;
        }
        if (what == 2) {
            return hill.toll;
        }
        if (what >= 10 && what < 10 + HEIRS) {
            return Integer.bitCount(hill.sectorsOf(what - 10));
        }
        if (what >= 20 && what < 20 + HEIRS) {
            return hill.gave[what - 20];
        }
        if (what >= 100 && what < 100 + HEIRS * SORTS) {
            return hill.worths[what - 100];
        }
        return OUTSIDE;
    }

    // ---- what a call is asked with

    private static boolean isRing(int ring) {
        return ring >= 0 && ring < RINGS;
    }

    private static boolean isSector(int sector) {
        return sector >= 0 && sector < SECTORS;
    }

    private static boolean isHeir(int heir) {
        return heir >= 0 && heir < HEIRS;
    }

    private static boolean isImage(int n) {
        return n >= 0 && n < IMAGES;
    }

    private static boolean areTwoHeirs(int heir, int other) {
        return isHeir(heir) && isHeir(other) && heir != other;
    }

    /** The SORT that a code stands for, or -1. */
    private static int sortOfCode(int code) {
        // A code beyond the signs would become another one as a char.
        return code < FIRST_SIGN || code > LAST_SIGN ? -1 : SORT_LETTERS.indexOf((char) code);
    }

    // ---- texts and cuts

    private int faultAs(int how) {
        if (how == AS_RING) {
            return pad.faultOfRuns(SORT_LETTERS, 0, SECTORS);
        }
        if (how == AS_SLICES) {
            return pad.faultOfRuns(HEIR_LETTERS, 0, SECTORS);
        }
        int heir = pad.letterAt(0, HEIR_LETTERS);
        if (heir < 0) {
            return 0;
        }
        if (!pad.hasAt(1, ':')) {
            return 1;
        }
        return pad.faultOfRuns(HEIR_LETTERS, Pad.SIGNS_BEFORE_RUNS, Integer.bitCount(hill.sectorsOf(heir)));
    }

    private int answerOfCut(Cut cut, int n, int i) {
        if (n < LEAST_ARCS || n > MOST_ARCS) {
            return OUTSIDE;
        }
        cut.searchAmong(n, hill);
        return cut.answer(i);
    }

    private void forgetCuts() {
        fairCut.forget();
        bestCut.forget();
    }

    // ---- ways

    /** The cost, the RING or the side of the WAY. */
    private int bestWay(int heir, int from, int to, int what) {
        // One number orders all ways as the document does: by cost, then by RING, then rising.
        int least = BEYOND;
        for (int ring = 0; ring < RINGS; ring++) {
            int rising = costOfWay(heir, from, to, ring);
            int falling = costOfWayBack(heir, from, to, ring);
            least = Math.min(least, (rising * RINGS + ring) * 2);
            least = Math.min(least, (falling * RINGS + ring) * 2 + 1);
        }
        if (what == 0) {
            return least / (2 * RINGS);
        }
        return what == 1 ? least / 2 % RINGS : 1 - least % 2;
    }

    private int costOfWay(int heir, int from, int to, int ring) {
        int steps = (to - from + SECTORS) % SECTORS;
        return costOfClimb(ring) + costOfRound(heir, from + 1, steps, ring);
    }

    private int costOfWayBack(int heir, int from, int to, int ring) {
        int steps = (from - to + SECTORS) % SECTORS;
        return costOfClimb(ring) + costOfRound(heir, to, steps, ring);
    }

    private static int costOfClimb(int ring) {
        return 2 * 2 * ring;
    }

    /** What it costs to come into so many SECTORS, the first of them and those that follow it. */
    private int costOfRound(int heir, int first, int steps, int ring) {
        int cost = steps * (6 - ring);
        for (int step = 0; step < steps; step++) {
            if (!hill.isFreeFor(heir, (first + step) % SECTORS)) {
                cost += hill.toll;
            }
        }
        return cost;
    }

    // ---- what falls

    /** The SECTOR to which a STONE comes from a CELL as it goes one RING down. */
    private int sectorBelow(int ring, int sector) {
        return hill.sortAt(ring, sector) == ROCK ? (sector + 1) % SECTORS : sector;
    }

    private int hitByStone(int ring, int sector) {
        int hit = 0;
        int at = sector;
        for (int r = ring; r > 0 && hill.sortAt(r, at) != WOOD; r--) {
            at = sectorBelow(r, at);
            hit |= 1 << hill.ownerOf(at);
        }
        return hit;
    }

    private int endOfStone(int ring, int sector) {
        int at = sector;
        for (int r = ring; r >= 0; r--) {
            if (hill.sortAt(r, at) == WOOD) {
                return at;
            }
            at = sectorBelow(r, at);
        }
        return NONE;
    }

    /** HIT (what = 0) or the number of CELLS (1) of an AVALANCHE. */
    private int runOfAvalanche(int ring, int sector, int what) {
        int hit = 0;
        int cells = 1;
        int sectors = 1 << sector;
        for (int r = ring - 1; r >= 0; r--) {
            sectors = withThoseBeside(sectors) & ~hill.sectorsOfSort(r, WOOD);
            cells += Integer.bitCount(sectors);
            hit |= hill.ownersOf(sectors);
        }
        return what == 0 ? hit : cells;
    }

    private static int withThoseBeside(int sectors) {
        int rising = sectors << 1 | sectors >> (SECTORS - 1);
        int falling = sectors >> 1 | sectors << (SECTORS - 1);
        return (sectors | rising | falling) & ALL_SECTORS;
    }

    // ---- springs and bounds

    private int yearsOfSpring(int sector, int goes, int year, int heir) {
        int years = 0;
        for (int y = 0; y <= year; y++) {
            if (hill.ownerOf((sector + goes * y) % SECTORS) == heir) {
                years++;
            }
        }
        return years;
    }

    private int firstYearOfSpring(int sector, int goes, int year, int heir) {
        for (int y = 0; y <= year; y++) {
            if (hill.ownerOf((sector + goes * y) % SECTORS) == heir) {
                return y;
            }
        }
        return NONE;
    }

    /** How many BOUNDS there are where two HEIRS are taken for one. */
    private int boundsAsOne(int heir, int other) {
        int bounds = 0;
        int before = asOne(hill.ownerOf(SECTORS - 1), heir, other);
        for (int sector = 0; sector < SECTORS; sector++) {
            int owner = asOne(hill.ownerOf(sector), heir, other);
            if (owner != before) {
                bounds++;
            }
            before = owner;
        }
        return bounds;
    }

    private static int asOne(int owner, int heir, int other) {
        return owner == other ? heir : owner;
    }

    private int bestWedding() {
        int fewest = SECTORS + 1;
        int wedding = NONE;
        for (int heir = 0; heir < HEIRS; heir++) {
            for (int other = heir + 1; other < HEIRS; other++) {
                if (hill.sectorsOf(heir) != 0 && hill.sectorsOf(other) != 0) {
                    int bounds = boundsAsOne(heir, other);
                    if (bounds < fewest) {
                        fewest = bounds;
                        wedding = 10 * heir + other;
                    }
                }
            }
        }
        return wedding;
    }

    private int narrowestPiece() {
        int narrowest = SECTORS;
        for (int sector = 0; sector < SECTORS; sector++) {
            if (hill.ownerOf(sector) != hill.ownerOf((sector + 1) % SECTORS)) {
                narrowest = Math.min(narrowest, pieceBehind(sector));
            }
        }
        return narrowest;
    }

    /** How many SECTORS the piece has that begins behind a BOUND. */
    private int pieceBehind(int bound) {
        int owner = hill.ownerOf((bound + 1) % SECTORS);
        int length = 1;
        while (length < SECTORS && hill.ownerOf((bound + 1 + length) % SECTORS) == owner) {
            length++;
        }
        return length;
    }

    /** The PAD: signs, and how they are read. */
    private static final class Pad {
        static final int SIGNS_OF_RUN = 2, SIGNS_BEFORE_RUNS = 2;

        private final char[] signs = new char[MOST_SIGNS];
        private final int[] row = new int[SECTORS];
        int count;

        int add(char sign) {
            if (count >= MOST_SIGNS) {
                return FULL;
            }
            signs[count] = sign;
            count++;
            return count;
        }

        int empty() {
            int before = count;
            count = 0;
            return before;
        }

        boolean hasAt(int place, char sign) {
            return place < count && signs[place] == sign;
        }

        /** Which of the letters stands at a place, or -1. */
        int letterAt(int place, String letters) {
            return place < count ? letters.indexOf(signs[place]) : -1;
        }

        /** The digit 1 to 9 at a place, or 0. */
        private int digitAt(int place) {
            int digit = place < count ? signs[place] - '0' : 0;
            return digit >= 1 && digit <= 9 ? digit : 0;
        }

        /** THE FAULT of the RUNS from a place on, which should have so many SECTORS in all. */
        int faultOfRuns(String letters, int from, int sectors) {
            int missing = sectors;
            for (int place = from; place < count; place += SIGNS_OF_RUN) {
                if (missing == 0 || letterAt(place, letters) < 0) {
                    return place;
                }
                int run = digitAt(place + 1);
                if (run == 0 || run > missing) {
                    return place + 1;
                }
                missing -= run;
            }
            return missing == 0 ? NONE : count;
        }

        /** The letter of each SECTOR in turn, by RUNS without a FAULT; the row is used again and again. */
        int[] readRuns(String letters, int from) {
            int filled = 0;
            for (int place = from; place < count; place += SIGNS_OF_RUN) {
                int letter = letterAt(place, letters);
                for (int left = digitAt(place + 1); left > 0 && filled < SECTORS; left--) {
                    row[filled] = letter;
                    filled++;
                }
            }
            return row;
        }
    }

    /** All that an IMAGE keeps. */
    private static final class Hill {
        private final int[] sorts = new int[CELLS];
        /** A row of SECTORS for each GENERATION; that of the last one tells how it is now. */
        private final int[] owners = new int[(MOST_GENERATIONS + 1) * SECTORS];
        final int[] worths = new int[HEIRS * SORTS];
        final int[] gave = new int[HEIRS];
        int generation;
        int toll = FIRST_TOLL;

        Hill() {
            for (int cell = 0; cell < CELLS; cell++) {
                sorts[cell] = FIRST_SORTS[cell / SECTORS];
            }
            for (int worth = 0; worth < HEIRS * SORTS; worth++) {
                worths[worth] = FIRST_WORTHS[worth % SORTS];
            }
        }

        void copyFrom(Hill other) {
            System.arraycopy(other.sorts, 0, sorts, 0, CELLS);
            System.arraycopy(other.owners, 0, owners, 0, (MOST_GENERATIONS + 1) * SECTORS);
            System.arraycopy(other.worths, 0, worths, 0, HEIRS * SORTS);
            System.arraycopy(other.gave, 0, gave, 0, HEIRS);
            generation = other.generation;
            toll = other.toll;
        }

        int sortAt(int ring, int sector) {
            return sorts[ring * SECTORS + sector];
        }

        void setRing(int ring, int[] row) {
            System.arraycopy(row, 0, sorts, ring * SECTORS, SECTORS);
        }

        int sectorsOfSort(int ring, int sort) {
            int sectors = 0;
            for (int sector = 0; sector < SECTORS; sector++) {
                if (sortAt(ring, sector) == sort) {
                    sectors |= 1 << sector;
                }
            }
            return sectors;
        }

        int ownerBehind(int past, int sector) {
            return owners[past * SECTORS + sector];
        }

        int ownerOf(int sector) {
            return ownerBehind(generation, sector);
        }

        int sectorsOf(int heir) {
            int sectors = 0;
            for (int sector = 0; sector < SECTORS; sector++) {
                if (ownerOf(sector) == heir) {
                    sectors |= 1 << sector;
                }
            }
            return sectors;
        }

        /** The HEIRS, as bits, who have some of these SECTORS. */
        int ownersOf(int sectors) {
            int heirs = 0;
            for (int sector = 0; sector < SECTORS; sector++) {
                if ((sectors >> sector & 1) != 0) {
                    heirs |= 1 << ownerOf(sector);
                }
            }
            return heirs;
        }

        void setSlices(int[] row) {
            generation = 0;
            System.arraycopy(row, 0, owners, 0, SECTORS);
        }

        /** Asked for only where one GENERATION more has room. */
        void beginGeneration() {
            System.arraycopy(owners, generation * SECTORS, owners, (generation + 1) * SECTORS, SECTORS);
            generation++;
        }

        private void give(int sector, int heir) {
            owners[generation * SECTORS + sector] = heir;
        }

        /** Gives the SECTORS of an HEIR, by numbers rising, to the HEIRS of a row. */
        void giveAway(int heir, int[] row) {
            int given = 0;
            for (int sector = 0; sector < SECTORS; sector++) {
                if (ownerOf(sector) == heir) {
                    give(sector, row[given]);
                    given++;
                }
            }
        }

        void join(int heir, int other) {
            for (int sector = 0; sector < SECTORS; sector++) {
                if (ownerOf(sector) == other) {
                    give(sector, heir);
                }
            }
        }

        /** Sets a WORTH; answers which it was. */
        int setWorth(int heir, int sort, int v) {
            int before = worths[heir * SORTS + sort];
            worths[heir * SORTS + sort] = v;
            return before;
        }

        int shareOfSector(int heir, int sector) {
            int sum = 0;
            for (int ring = 0; ring < RINGS; ring++) {
                sum += worths[heir * SORTS + sortAt(ring, sector)];
            }
            return sum;
        }

        int shareOf(int heir, int sectors) {
            int sum = 0;
            for (int sector = 0; sector < SECTORS; sector++) {
                if ((sectors >> sector & 1) != 0) {
                    sum += shareOfSector(heir, sector);
                }
            }
            return sum;
        }

        boolean hasRight(int heir, int from) {
            return (gave[from] >> heir & 1) != 0;
        }

        /** Gives a RIGHT or takes it back; answers whether it was given. */
        boolean setRight(int heir, int to, boolean has) {
            boolean before = hasRight(to, heir);
            int bit = 1 << to;
            gave[heir] = has ? gave[heir] | bit : gave[heir] & ~bit;
            return before;
        }

        /** Whether an HEIR comes into a SECTOR without TOLL. */
        boolean isFreeFor(int heir, int sector) {
            int owner = ownerOf(sector);
            return owner == heir || hasRight(heir, owner);
        }
    }

    /** The search for the FAIR CUT or the BEST CUT; what it found stands until it is to forget it. */
    private static final class Cut {
        /** Arcs may go on past SECTOR 23: all SECTORS stand twice in the sums. */
        private static final int TWICE = 2 * SECTORS;
        /** No cut among so few has more: 4 of 24 SECTORS as bounds. */
        private static final int MOST_CUTS = 10626;

        private final boolean fair;
        /** By HEIR: the SHARE of all SECTORS ahead of one, over two rounds. */
        private final int[] sums = new int[MOST_ARCS * TWICE];
        /** By arc: its SHARE to each HEIR. */
        private final int[] shares = new int[MOST_ARCS * MOST_ARCS];
        private final int[] begins = new int[MOST_ARCS];
        private final int[] heirs = new int[MOST_ARCS];
        private final int[] foundBegins = new int[MOST_ARCS];
        private final int[] foundHeirs = new int[MOST_ARCS];
        private int n;
        private int leastShare;

        Cut(boolean fair) {
            this.fair = fair;
        }

        void forget() {
            n = 0;
        }

        private boolean isFound() {
            return leastShare >= 0;
        }

        int answer(int i) {
            if (!isFound()) {
                return NONE;
            }
            if (i == -1) {
                return fair ? 1 : leastShare;
            }
            if (i >= 0 && i < n) {
                return foundBegins[i];
            }
            return i >= 10 && i < 10 + n ? foundHeirs[i - 10] : NONE;
        }

        void searchAmong(int heirsOfCut, Hill hill) {
            if (n == heirsOfCut) {
                return;
            }
            n = heirsOfCut;
            leastShare = -1;
            for (int heir = 0; heir < n; heir++) {
                begins[heir] = heir;
                sumUp(heir, hill);
            }
            boolean more = true;
            for (int cut = 0; cut < MOST_CUTS && more && !isSettled(); cut++) {
                int useless = firstArcOfNoUse();
                if (useless == n) {
                    chooseHeirs(0, 0, BEYOND);
                }
                more = stepBounds(Math.min(useless + 1, n - 1));
            }
        }

        private void sumUp(int heir, Hill hill) {
            int sum = 0;
            for (int sector = 0; sector < TWICE; sector++) {
                sums[heir * TWICE + sector] = sum;
                sum += hill.shareOfSector(heir, sector % SECTORS);
            }
        }

        /** The first FAIR CUT is the one; a BEST CUT must be sought to the end. */
        private boolean isSettled() {
            return fair && isFound();
        }

        /** Steps to the next bounds of which one up to that of an arc is another; whether there are any. */
        private boolean stepBounds(int arc) {
            int last = arc;
            while (last >= 0 && begins[last] >= SECTORS - n + last) {
                last--;
            }
            if (last < 0) {
                return false;
            }
            begins[last]++;
            for (int later = last + 1; later < n; later++) {
                begins[later] = begins[later - 1] + 1;
            }
            return true;
        }

        /** The first arc that is not enough for any HEIR, or n; the SHARES of those before it are noted. */
        private int firstArcOfNoUse() {
            int arc = 0;
            while (arc < n && noteShares(arc)) {
                arc++;
            }
            return arc;
        }

        /** Notes what an arc is worth to each HEIR; whether that is enough for one of them. */
        private boolean noteShares(int arc) {
            int end = arc + 1 < n ? begins[arc + 1] : begins[0] + SECTORS;
            boolean use = false;
            for (int heir = 0; heir < n; heir++) {
                int share = sums[heir * TWICE + end] - sums[heir * TWICE + begins[arc]];
                shares[arc * MOST_ARCS + heir] = share;
                use |= isEnough(heir, share);
            }
            return use;
        }

        /** Who has less than the n-th part of all ENVIES some other one: that spares most cuts. */
        private boolean isEnough(int heir, int share) {
            return fair ? share * n >= sums[heir * TWICE + SECTORS] : share > leastShare;
        }

        /** Tries all HEIRS of the arcs from one on, by numbers rising, but those used already. */
        private void chooseHeirs(int arc, int used, int leastBefore) {
            for (int heir = 0; heir < n && !isSettled(); heir++) {
                int share = shares[arc * MOST_ARCS + heir];
                int least = Math.min(leastBefore, share);
                boolean can = fair ? !isEnvious(heir, share) : least > leastShare;
                if ((used >> heir & 1) == 0 && can) {
                    heirs[arc] = heir;
                    chooseBehind(arc, used | 1 << heir, least);
                }
            }
        }

        private void chooseBehind(int arc, int used, int least) {
            if (arc + 1 < n) {
                chooseHeirs(arc + 1, used, least);
            } else {
                keep(least);
            }
        }

        private boolean isEnvious(int heir, int own) {
            boolean envious = false;
            for (int arc = 0; arc < n; arc++) {
                envious |= shares[arc * MOST_ARCS + heir] > own;
            }
            return envious;
        }

        private void keep(int least) {
            leastShare = least;
            System.arraycopy(begins, 0, foundBegins, 0, n);
            System.arraycopy(heirs, 0, foundHeirs, 0, n);
        }
    }

    /**
     * The least FENCE: what the most beasts that can stream from meadows to vines at once, with as many
     * through each side of a CELL as a fence there is long, come to (the greatest flow is the least cut).
     */
    private static final class Fence {
        private static final int SIDES = 4, RISING = 0, FALLING = 1, UP = 2, DOWN = 3;
        private static final int UNSEEN = -1, BEGINS = 4;
        /** More than all fences of the hill together. */
        private static final int MOST_LENGTH = 1000;

        /** By CELL and side: how much may still stream out by it. */
        private final int[] room = new int[CELLS * SIDES];
        /** By which side the stream came into a CELL. */
        private final int[] came = new int[CELLS];
        private final int[] queue = new int[CELLS];
        private final boolean[] goals = new boolean[CELLS];
        private int queued;

        int lengthFor(int heir, Hill hill) {
            for (int ring = 0; ring < RINGS; ring++) {
                for (int sector = 0; sector < SECTORS; sector++) {
                    int cell = ring * SECTORS + sector;
                    goals[cell] = hill.sortAt(ring, sector) == VINES && hill.ownerOf(sector) != heir;
                    openSides(cell, ring);
                }
            }
            int length = 0;
            for (int stream = 0; stream < MOST_LENGTH; stream++) {
                int goal = seekGoal(heir, hill);
                if (goal == NONE) {
                    break;
                }
                length += streamTo(goal);
            }
            return length;
        }

        private void openSides(int cell, int ring) {
            room[cell * SIDES + RISING] = 2;
            room[cell * SIDES + FALLING] = 2;
            room[cell * SIDES + UP] = ring + 1 < RINGS ? 5 - ring : 0;
            room[cell * SIDES + DOWN] = ring > 0 ? 5 - (ring - 1) : 0;
        }

        /** A goal to which there is still room from a meadow of the HEIR, or NONE. */
        private int seekGoal(int heir, Hill hill) {
            queued = 0;
            for (int cell = 0; cell < CELLS; cell++) {
                came[cell] = UNSEEN;
                int sector = cell % SECTORS;
                if (hill.sortAt(cell / SECTORS, sector) == MEADOW && hill.ownerOf(sector) == heir) {
                    reach(cell, BEGINS);
                }
            }
            for (int next = 0; next < queued && next < CELLS; next++) {
                int cell = queue[next];
                if (goals[cell]) {
                    return cell;
                }
                for (int side = 0; side < SIDES; side++) {
                    if (room[cell * SIDES + side] > 0) {
                        reach(beside(cell, side), side);
                    }
                }
            }
            return NONE;
        }

        private void reach(int cell, int side) {
            if (came[cell] == UNSEEN && queued < CELLS) {
                came[cell] = side;
                queue[queued] = cell;
                queued++;
            }
        }

        /** Only for sides that have room: there is a CELL beside it. */
        private static int beside(int cell, int side) {
            int ring = cell / SECTORS;
            int sector = cell % SECTORS;
            switch (side) {
                case RISING:
                    return ring * SECTORS + (sector + 1) % SECTORS;
                case FALLING:
                    return ring * SECTORS + (sector + SECTORS - 1) % SECTORS;
                case UP:
                    return cell + SECTORS;
                default:
                    return cell - SECTORS;
            }
        }

        /** The side of the CELL beside that leads back. */
        private static int opposite(int side) {
            return side ^ 1;
        }

        /** Streams as much as can by the way found to a goal; how much that was. */
        private int streamTo(int goal) {
            int most = MOST_LENGTH;
            for (int cell = goal, steps = 0; came[cell] != BEGINS && steps < CELLS; steps++) {
                int side = came[cell];
                cell = beside(cell, opposite(side));
                most = Math.min(most, room[cell * SIDES + side]);
            }
            for (int cell = goal, steps = 0; came[cell] != BEGINS && steps < CELLS; steps++) {
                int side = came[cell];
                room[cell * SIDES + opposite(side)] += most;
                cell = beside(cell, opposite(side));
                room[cell * SIDES + side] -= most;
            }
            return most;
        }
    }
}
