import java.util.ArrayDeque;
import java.util.ArrayList;
import java.util.Arrays;
import java.util.Deque;
import java.util.List;
import java.util.TreeMap;
import java.util.TreeSet;
import java.util.regex.Matcher;
import java.util.regex.Pattern;

/**
 * The document once more, as plainly as can be and in another way than in HillSlices wherever there is
 * one: cuts by trying all of them, texts by what they could still become, fences by a matrix.
 */
final class Model {
    private static final int NONE = -6, UNKNOWN = -1, OUTSIDE = -2, STATE = -3, FULL = -4, NO = -5;
    private static final Pattern RUN = Pattern.compile("([a-z])([1-9])");

    private String pad = "";
    private Kept now = new Kept();
    private final Kept[] images = new Kept[2];

    /** What an IMAGE keeps: texts of 24 signs for RINGS and for each GENERATION. */
    private static final class Kept {
        final String[] rings = {"v".repeat(24), "v".repeat(24), "m".repeat(24), "r".repeat(24), "s".repeat(24)};
        final List<String> past = new ArrayList<>(List.of("a".repeat(24)));
        final TreeMap<String, Integer> worths = new TreeMap<>();
        final TreeSet<String> rights = new TreeSet<>();
        int toll = 5;

        Kept copy() {
            Kept copy = new Kept();
            System.arraycopy(rings, 0, copy.rings, 0, 5);
            copy.past.clear();
            copy.past.addAll(past);
            copy.worths.putAll(worths);
            copy.rights.addAll(rights);
            copy.toll = toll;
            return copy;
        }

        String slices() {
            return past.get(past.size() - 1);
        }

        int owner(int sector) {
            return slices().charAt(Math.floorMod(sector, 24)) - 'a';
        }

        char sort(int ring, int sector) {
            return rings[ring].charAt(Math.floorMod(sector, 24));
        }

        int worth(int heir, char sort) {
            int first = sort == 'v' ? 10 : sort == 'w' ? 4 : sort == 'm' ? 3 : sort == 'r' ? 0 : 1;
            return worths.getOrDefault("" + heir + sort, first);
        }
    }

    private static boolean in(int number, int least, int most) {
        return number >= least && number <= most;
    }

    private static boolean heirs(int... heirs) {
        return Arrays.stream(heirs).allMatch(heir -> in(heir, 0, 5));
    }

    private static boolean sectors(int... sectors) {
        return Arrays.stream(sectors).allMatch(sector -> in(sector, 0, 23));
    }

    int say(int sign) {
        if (!in(sign, 33, 126)) {
            return OUTSIDE;
        }
        if (pad.length() == 60) {
            return FULL;
        }
        pad += (char) sign;
        return pad.length();
    }

    int wipe() {
        int length = pad.length();
        pad = "";
        return length;
    }

    /** The 24 letters or fewer that a text of RUNS stands for; null if it is no such text. */
    private static String spread(String text, String letters) {
        Matcher run = RUN.matcher(text);
        StringBuilder all = new StringBuilder();
        int end = 0;
        while (end < text.length()) {
            if (!run.find(end) || run.start() != end || letters.indexOf(run.group(1)) < 0) {
                return null;
            }
            all.append(run.group(1).repeat(Integer.parseInt(run.group(2))));
            end = run.end();
        }
        return all.toString();
    }

    /** Whether a text could become RUNS of so many SECTORS by more signs or by none. */
    private static boolean canBecome(String text, String letters, int sectors) {
        int runs = text.length() / 2 * 2;
        String all = spread(text.substring(0, runs), letters);
        if (all == null || all.length() > sectors) {
            return false;
        }
        return runs == text.length() || all.length() < sectors && letters.indexOf(text.charAt(runs)) >= 0;
    }

    private boolean canBecome(String text, int how) {
        if (how < 2) {
            return canBecome(text, how == 0 ? "vwmrs" : "abcdef", 24);
        }
        if (text.length() < 2) {
            return text.isEmpty() || "abcdef".contains(text);
        }
        return text.matches("[a-f]:.*") && canBecome(text.substring(2), "abcdef", count(text.charAt(0) - 'a'));
    }

    private boolean isWhole(String text, int how) {
        int due = how < 2 ? 24 : text.length() < 2 ? -1 : count(text.charAt(0) - 'a');
        String runs = how < 2 ? text : text.length() < 2 ? "" : text.substring(2);
        String all = spread(runs, how == 0 ? "vwmrs" : "abcdef");
        return all != null && all.length() == due;
    }

    int fault(int how) {
        if (!in(how, 0, 2)) {
            return OUTSIDE;
        }
        int good = 0;
        while (good < pad.length() && canBecome(pad.substring(0, good + 1), how)) {
            good++;
        }
        return good == pad.length() && isWhole(pad, how) ? NONE : good;
    }

    int ring(int ring) {
        if (!in(ring, 0, 4)) {
            return UNKNOWN;
        }
        if (fault(0) != NONE) {
            return NO;
        }
        now.rings[ring] = spread(pad, "vwmrs");
        return wipe() / 2;
    }

    int slices() {
        if (fault(1) != NONE) {
            return NO;
        }
        now.past.clear();
        now.past.add(spread(pad, "abcdef"));
        return wipe() / 2;
    }

    int will() {
        if (now.past.size() == 21) {
            return FULL;
        }
        if (fault(2) != NONE) {
            return NO;
        }
        Deque<Character> gifts = new ArrayDeque<>();
        for (char heir : spread(pad.substring(2), "abcdef").toCharArray()) {
            gifts.add(heir);
        }
        StringBuilder next = new StringBuilder();
        for (char owner : now.slices().toCharArray()) {
            next.append(owner == pad.charAt(0) ? gifts.remove().charValue() : owner);
        }
        now.past.add(next.toString());
        wipe();
        return now.past.size() - 1;
    }

    int wedding(int heir, int other) {
        if (!heirs(heir, other) || heir == other) {
            return UNKNOWN;
        }
        if (now.past.size() == 21) {
            return FULL;
        }
        now.past.add(now.slices().replace((char) ('a' + other), (char) ('a' + heir)));
        return now.past.size() - 1;
    }

    int cell(int ring, int sector) {
        return in(ring, 0, 4) && sectors(sector) ? now.sort(ring, sector) : UNKNOWN;
    }

    int was(int sector, int generation) {
        if (!sectors(sector)) {
            return UNKNOWN;
        }
        return in(generation, 0, now.past.size() - 1) ? now.past.get(generation).charAt(sector) - 'a' : OUTSIDE;
    }

    private int count(int heir) {
        return (int) now.slices().chars().filter(owner -> owner == 'a' + heir).count();
    }

    int has(int heir) {
        if (!heirs(heir)) {
            return UNKNOWN;
        }
        int bits = 0;
        for (int sector = 23; sector >= 0; sector--) {
            bits = bits * 2 + (now.owner(sector) == heir ? 1 : 0);
        }
        return bits;
    }

    int worth(int heir, int sort, int v) {
        if (!heirs(heir)) {
            return UNKNOWN;
        }
        if (sort != 'v' && sort != 'w' && sort != 'm' && sort != 'r' && sort != 's' || !in(v, 0, 99)) {
            return OUTSIDE;
        }
        int before = now.worth(heir, (char) sort);
        now.worths.put("" + heir + (char) sort, v);
        return before;
    }

    private int value(int heir, int sector) {
        int sum = 0;
        for (int ring = 0; ring < 5; ring++) {
            sum += now.worth(heir, now.sort(ring, sector));
        }
        return sum;
    }

    int share(int heir, int sectors) {
        if (!heirs(heir)) {
            return UNKNOWN;
        }
        if (!in(sectors, 0, 16777215)) {
            return OUTSIDE;
        }
        int sum = 0;
        for (int sector = 0, left = sectors; sector < 24; sector++, left /= 2) {
            sum += left % 2 * value(heir, sector);
        }
        return sum;
    }

    int envies(int heir) {
        if (!heirs(heir)) {
            return UNKNOWN;
        }
        int bits = 0;
        for (int other = 0; other < 6; other++) {
            if (share(heir, has(other)) > share(heir, has(heir))) {
                bits += 1 << other;
            }
        }
        return bits;
    }

    /** A cut: the least SHARE, the bounds, the HEIRS; null if there is none. */
    int[] cut(int n, boolean fair) {
        int[][] values = new int[n][24];
        for (int heir = 0; heir < n; heir++) {
            for (int sector = 0; sector < 24; sector++) {
                values[heir][sector] = value(heir, sector);
            }
        }
        int[] found = null;
        int[][] arcs = new int[n][n];
        List<int[]> orders = choices(n, n, false);
        for (int[] bounds : choices(n, 24, true)) {
            measure(bounds, values, arcs);
            for (int[] order : orders) {
                int least = least(order, arcs);
                boolean good = !fair || isFair(order, arcs);
                if (good && (found == null || better(least, bounds, order, found, fair))) {
                    found = join(least, bounds, order);
                }
            }
        }
        return found;
    }

    /** All choices of so many different numbers below a limit, rising ones alone or in any order. */
    private static List<int[]> choices(int count, int limit, boolean rising) {
        List<int[]> all = new ArrayList<>(List.of(new int[0]));
        for (int length = 0; length < count; length++) {
            List<int[]> longer = new ArrayList<>();
            for (int[] choice : all) {
                for (int number = 0; number < limit; number++) {
                    int next = number;
                    if (Arrays.stream(choice).noneMatch(n -> n == next || rising && n > next)) {
                        int[] more = Arrays.copyOf(choice, length + 1);
                        more[length] = number;
                        longer.add(more);
                    }
                }
            }
            all = longer;
        }
        return all;
    }

    private static void measure(int[] bounds, int[][] values, int[][] arcs) {
        int n = bounds.length;
        for (int arc = 0; arc < n; arc++) {
            for (int heir = 0; heir < n; heir++) {
                int sum = 0;
                int sector = bounds[arc];
                do {
                    sum += values[heir][sector];
                    sector = (sector + 1) % 24;
                } while (sector != bounds[(arc + 1) % n]);
                arcs[arc][heir] = sum;
            }
        }
    }

    private static int least(int[] order, int[][] arcs) {
        int least = Integer.MAX_VALUE;
        for (int arc = 0; arc < order.length; arc++) {
            least = Math.min(least, arcs[arc][order[arc]]);
        }
        return least;
    }

    private static boolean isFair(int[] order, int[][] arcs) {
        for (int arc = 0; arc < order.length; arc++) {
            for (int other = 0; other < order.length; other++) {
                if (arcs[other][order[arc]] > arcs[arc][order[arc]]) {
                    return false;
                }
            }
        }
        return true;
    }

    private static boolean better(int least, int[] bounds, int[] order, int[] found, boolean fair) {
        if (!fair && least != found[0]) {
            return least > found[0];
        }
        int[] other = join(least, bounds, order);
        return Arrays.compare(other, 1, other.length, found, 1, found.length) < 0;
    }

    private static int[] join(int least, int[] bounds, int[] order) {
        int[] all = new int[1 + 2 * bounds.length];
        all[0] = least;
        System.arraycopy(bounds, 0, all, 1, bounds.length);
        System.arraycopy(order, 0, all, 1 + bounds.length, bounds.length);
        return all;
    }

    /** What is answered of a cut among n. */
    static int answer(int[] cut, boolean fair, int n, int i) {
        if (!in(n, 2, 4)) {
            return OUTSIDE;
        }
        if (cut == null) {
            return NONE;
        }
        if (i == -1) {
            return fair ? 1 : cut[0];
        }
        return in(i, 0, n - 1) ? cut[1 + i] : in(i, 10, 9 + n) ? cut[1 + n + i - 10] : NONE;
    }

    int toll(int v) {
        if (!in(v, 0, 99)) {
            return OUTSIDE;
        }
        int before = now.toll;
        now.toll = v;
        return before;
    }

    int right(int heir, int to, boolean has) {
        if (!heirs(heir, to) || heir == to) {
            return UNKNOWN;
        }
        String right = heir + ">" + to;
        return (has ? !now.rights.add(right) : now.rights.remove(right)) ? 1 : 0;
    }

    int way(int heir, int from, int to, int what) {
        if (!heirs(heir) || !sectors(from, to)) {
            return UNKNOWN;
        }
        if (!in(what, 0, 2)) {
            return OUTSIDE;
        }
        int[] best = null;
        for (int ring = 0; ring < 5; ring++) {
            for (int side = 1; side >= -1; side -= 2) {
                int cost = ring * 4;
                for (int at = from; at != to;) {
                    at = Math.floorMod(at + side, 24);
                    int owner = now.owner(at);
                    boolean free = owner == heir || now.rights.contains(owner + ">" + heir);
                    cost += 6 - ring + (free ? 0 : now.toll);
                }
                if (best == null || cost < best[0]) {
                    best = new int[] {cost, ring, side == 1 ? 1 : 0};
                }
            }
        }
        return best[what];
    }

    int stone(int ring, int sector, int what) {
        if (!in(ring, 0, 4) || !sectors(sector)) {
            return UNKNOWN;
        }
        if (!in(what, 0, 1)) {
            return OUTSIDE;
        }
        TreeSet<Integer> hit = new TreeSet<>();
        int at = fall(ring, sector, hit);
        return what == 0 ? bits(hit) : at;
    }

    private int fall(int ring, int sector, TreeSet<Integer> hit) {
        char sort = now.sort(ring, sector);
        if (sort == 'w') {
            return sector;
        }
        if (ring == 0) {
            return NONE;
        }
        int below = sort == 'r' ? (sector + 1) % 24 : sector;
        hit.add(now.owner(below));
        return fall(ring - 1, below, hit);
    }

    private static int bits(Iterable<Integer> numbers) {
        int bits = 0;
        for (int number : numbers) {
            bits |= 1 << number;
        }
        return bits;
    }

    int avalanche(int ring, int sector, int what) {
        if (!in(ring, 0, 4) || !sectors(sector)) {
            return UNKNOWN;
        }
        if (!in(what, 0, 1)) {
            return OUTSIDE;
        }
        if (now.sort(ring, sector) != 's') {
            return STATE;
        }
        TreeSet<Integer> hit = new TreeSet<>();
        TreeSet<Integer> front = new TreeSet<>(List.of(sector));
        int cells = 1;
        for (int r = ring - 1; r >= 0; r--) {
            TreeSet<Integer> next = new TreeSet<>();
            for (int s : front) {
                next.addAll(List.of((s + 23) % 24, s, (s + 1) % 24));
            }
            int below = r;
            next.removeIf(s -> now.sort(below, s) == 'w');
            next.forEach(s -> hit.add(now.owner(s)));
            cells += next.size();
            front = next;
        }
        return what == 0 ? bits(hit) : cells;
    }

    int rolls(int heir) {
        if (!heirs(heir)) {
            return UNKNOWN;
        }
        TreeSet<Integer> hit = new TreeSet<>();
        for (int cell = 0; cell < 120; cell++) {
            if (now.owner(cell) == heir) {
                fall(cell / 24, cell % 24, hit);
            }
        }
        hit.remove(heir);
        return bits(hit);
    }

    /** The greatest stream from CELL 120 (to all meadows) to 121 (from all vines), by deepest ways first. */
    int fence(int heir) {
        if (!heirs(heir)) {
            return UNKNOWN;
        }
        int[][] room = new int[122][122];
        for (int ring = 0; ring < 5; ring++) {
            for (int sector = 0; sector < 24; sector++) {
                int cell = ring * 24 + sector;
                int next = ring * 24 + (sector + 1) % 24;
                room[cell][next] = 2;
                room[next][cell] = 2;
                if (ring < 4) {
                    room[cell][cell + 24] = 5 - ring;
                    room[cell + 24][cell] = 5 - ring;
                }
                boolean own = now.owner(sector) == heir;
                room[120][cell] = own && now.sort(ring, sector) == 'm' ? 1000 : 0;
                room[cell][121] = !own && now.sort(ring, sector) == 'v' ? 1000 : 0;
            }
        }
        int length = 0;
        while (stream(120, room, new boolean[122])) {
            length++;
        }
        return length;
    }

    private static boolean stream(int cell, int[][] room, boolean[] seen) {
        if (cell == 121) {
            return true;
        }
        seen[cell] = true;
        for (int next = 121; next >= 0; next--) {
            if (room[cell][next] > 0 && !seen[next] && stream(next, room, seen)) {
                room[cell][next]--;
                room[next][cell]++;
                return true;
            }
        }
        return false;
    }

    int spring(int sector, int goes, int year, int what) {
        if (!sectors(sector)) {
            return UNKNOWN;
        }
        if (!in(goes, 0, 23) || !in(year, 0, 999) || what != 0 && !in(what, 10, 15) && !in(what, 20, 25)) {
            return OUTSIDE;
        }
        List<Integer> owners = new ArrayList<>();
        for (int y = 0, at = sector; y <= year; y++, at += goes) {
            owners.add(now.owner(at));
        }
        if (what == 0) {
            return owners.get(year);
        }
        if (what < 20) {
            return (int) owners.stream().filter(owner -> owner == what - 10).count();
        }
        int first = owners.indexOf(what - 20);
        return first < 0 ? NONE : first;
    }

    private static int count(String slices) {
        int bounds = 0;
        for (int sector = 0; sector < 24; sector++) {
            bounds += slices.charAt(sector) == slices.charAt((sector + 1) % 24) ? 0 : 1;
        }
        return bounds;
    }

    int bounds(int what) {
        String slices = now.slices();
        if (what == 0) {
            return count(slices);
        }
        if (what == 1) {
            TreeMap<Integer, Integer> pairs = new TreeMap<>();
            for (int pair = 55; pair >= 0; pair--) {
                int heir = pair / 10;
                int other = pair % 10;
                if (heir < other && other < 6 && has(heir) > 0 && has(other) > 0) {
                    pairs.put(count(slices.replace((char) ('a' + other), (char) ('a' + heir))), pair);
                }
            }
            return pairs.isEmpty() ? NONE : pairs.firstEntry().getValue();
        }
        if (what != 2) {
            return OUTSIDE;
        }
        int turn = 0;
        while (turn < 24 && slices.charAt(turn) == slices.charAt((turn + 23) % 24)) {
            turn++;
        }
        String turned = slices.substring(turn) + slices.substring(0, turn);
        int narrowest = 24;
        for (Matcher piece = Pattern.compile("(.)\\1*").matcher(turned); piece.find();) {
            narrowest = Math.min(narrowest, piece.group().length());
        }
        return narrowest;
    }

    int image(int n) {
        if (!in(n, 0, 1)) {
            return OUTSIDE;
        }
        images[n] = now.copy();
        return 1;
    }

    int restore(int n) {
        if (!in(n, 0, 1)) {
            return OUTSIDE;
        }
        if (images[n] == null) {
            return STATE;
        }
        now = images[n].copy();
        return 1;
    }

    int told(int what) {
        if (in(what, 0, 2)) {
            return new int[] {pad.length(), now.past.size() - 1, now.toll}[what];
        }
        if (in(what, 10, 15)) {
            return count(what - 10);
        }
        if (in(what, 20, 25)) {
            int bits = 0;
            for (int to = 0; to < 6; to++) {
                bits += now.rights.contains(what - 20 + ">" + to) ? 1 << to : 0;
            }
            return bits;
        }
        return in(what, 100, 129) ? now.worth((what - 100) / 5, "vwmrs".charAt(what % 5)) : OUTSIDE;
    }
}
