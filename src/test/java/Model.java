import java.util.ArrayList;
import java.util.Comparator;
import java.util.HashMap;
import java.util.List;
import java.util.Map;
import java.util.PriorityQueue;
import java.util.regex.Matcher;
import java.util.regex.Pattern;

/**
 * ../shared/DOC.md written a second time, in other ways than the class goes: texts by a pattern,
 * words from the end of a walk, two who meet step by step, all by trial where trial is enough.
 */
final class Model {
    private static final String KINDS = "swcntm";
    private static final Pattern TOWN = Pattern.compile("(?:k[swcntm][0-9]{2};|v[swcntm][0-9]{4};|h[0-9]{2};|[fb][0-9];)+");
    private static final int NO_WAY = -1;

    private char[] kind = "s".repeat(36).toCharArray();
    private int home = 0;
    private int fine = 2;
    private int breath = 5;
    private Model kept;
    private final StringBuilder letters = new StringBuilder();
    private final List<Integer> row = new ArrayList<>();
    private final int[] refusals = new int[7];

    private int refuse(int number) {
        refusals[-number]++;
        return number;
    }

    private static boolean no(int square) {
        return square < 0 || square > 35;
    }

    private void takeOver(Model other) {
        kind = other.kind.clone();
        home = other.home;
        fine = other.fine;
        breath = other.breath;
    }

    private Model copy() {
        Model other = new Model();
        other.takeOver(this);
        return other;
    }

    private Model with(int square, char other) {
        Model then = copy();
        then.kind[square] = other;
        return then;
    }

    // ---- the town

    private boolean can(int s) {
        return kind[s] != 'w' && kind[s] != 't';
    }

    private int wordsOf(int s) {
        return kind[s] == 'm' ? 2 : kind[s] == 's' || kind[s] == 'c' ? 1 : 0;
    }

    private int ears(int s) {
        return kind[s] == 'n' ? 1 : kind[s] == 't' ? 2 : -9;
    }

    private boolean turnIsCorner(int s) {
        return kind[s] != 'c' && kind[s] != 'm';
    }

    private boolean isCorner(int s, int came, int goes) {
        return came != NO_WAY && goes != NO_WAY && came != goes && turnIsCorner(s);
    }

    private int heardBy(int s) {
        int all = 0;
        for (int r = 0; r < 6; r++) {
            for (int c = 0; c < 6; c++) {
                all += Math.abs(s / 6 - r) + Math.abs(s % 6 - c) <= ears(6 * r + c) ? 1 : 0;
            }
        }
        return all;
    }

    private int allHeard() {
        int all = 0;
        for (int s = 0; s < 36; s++) {
            all += heardBy(s) > 0 ? 1 : 0;
        }
        return all;
    }

    private int toll(int s) {
        return wordsOf(s) * fine * heardBy(s);
    }

    private int beside(int s, int way) {
        int r = s / 6 + (way == 0 ? -1 : way == 3 ? 1 : 0);
        int c = s % 6 + (way == 1 ? -1 : way == 2 ? 1 : 0);
        return r < 0 || r > 5 || c < 0 || c > 5 || !can(6 * r + c) ? -1 : 6 * r + c;
    }

    // ---- letters

    int letter(int c) {
        if (c < 0) {
            return refuse(-4);
        }
        if (c > 255 || letters.length() == 96) {
            return refuse(-6);
        }
        letters.append((char) c);
        return letters.length();
    }

    int town() {
        String text = letters.toString();
        letters.setLength(0);
        for (int length = 1; length <= text.length(); length++) {
            Matcher some = TOWN.matcher(text.substring(0, length));
            if (!some.matches() && !some.hitEnd()) {
                return -1000 - (length - 1);
            }
        }
        if (!TOWN.matcher(text).matches()) {
            return -1000 - text.length();
        }
        Model then = copy();
        int place = 0;
        int statements = 0;
        for (String one : text.split(";")) {
            if (!then.takes(one)) {
                return -2000 - place;
            }
            statements++;
            place += one.length() + 1;
        }
        takeOver(then);
        return statements;
    }

    private boolean takes(String one) {
        int number = Integer.parseInt(one.replaceAll("[a-z]", ""));
        switch (one.charAt(0)) {
            case 'k':
                return all(one.charAt(1), number, number);
            case 'v':
                return all(one.charAt(1), number / 100, number % 100);
            case 'h':
                home = no(number) ? home : number;
                return !no(number) && can(number);
            case 'f':
                fine = number;
                return true;
            default:
                breath = number;
                return number >= 1;
        }
    }

    private boolean all(char of, int first, int last) {
        if (first > last || last > 35) {
            return false;
        }
        for (int s = first; s <= last; s++) {
            kind[s] = of;
        }
        return can(home);
    }

    // ---- squares and numbers

    int square(int s, int what) {
        if (no(s)) {
            return refuse(-1);
        }
        if (what < 0 || what > 4) {
            return refuse(-2);
        }
        int[] all = {KINDS.indexOf(kind[s]), can(s) ? 1 : 0, wordsOf(s), ears(s), turnIsCorner(s) ? 1 : 0};
        return all[what];
    }

    int turnTo(int s, int to) {
        if (no(s)) {
            return refuse(-1);
        }
        if (to < 0 || to > 5) {
            return refuse(-2);
        }
        Model then = with(s, KINDS.charAt(to));
        if (!then.can(home)) {
            return refuse(-3);
        }
        int was = KINDS.indexOf(kind[s]);
        takeOver(then);
        return was;
    }

    int set(int what, int v) {
        if (what < 0 || what > 2) {
            return refuse(-2);
        }
        if (what == 0 && no(v)) {
            return refuse(-1);
        }
        if (what == 1 && v < 0 || what == 2 && v < 1) {
            return refuse(-4);
        }
        if (what != 0 && v > 9) {
            return refuse(-6);
        }
        if (what == 0 && !can(v)) {
            return refuse(-3);
        }
        int[] was = {home, fine, breath};
        home = what == 0 ? v : home;
        fine = what == 1 ? v : fine;
        breath = what == 2 ? v : breath;
        return was[what];
    }

    int heard(int s) {
        return no(s) ? refuse(-1) : heardBy(s);
    }

    // ---- walks

    /** What a walk gives that is gone from a square: square at the end, words, corners, cuts, fines, the longest run. */
    private int[] told(int from, List<Integer> ways) {
        int at = from;
        int words = 0;
        int corners = 0;
        int fines = 0;
        List<Integer> runs = new ArrayList<>(List.of(0));
        for (int i = 0; i <= ways.size(); i++) {
            int came = i == 0 ? NO_WAY : ways.get(i - 1);
            int goes = i == ways.size() ? NO_WAY : ways.get(i);
            if (isCorner(at, came, goes)) {
                corners++;
                runs.add(0);
            } else {
                words += wordsOf(at);
                fines += toll(at);
                runs.set(runs.size() - 1, runs.get(runs.size() - 1) + wordsOf(at));
            }
            at = goes == NO_WAY ? at : beside(at, goes);
        }
        int cuts = corners;
        int longest = 0;
        for (int run : runs) {
            cuts += run == 0 ? 0 : (run - 1) / breath;
            longest = Math.max(longest, run);
        }
        return new int[] {at, words, corners, cuts, fines, longest};
    }

    private boolean rowIsOfWays() {
        return row.stream().allMatch(v -> v <= 3);
    }

    private int firstNotGone() {
        int at = home;
        for (int i = 0; i < row.size(); i++) {
            at = beside(at, row.get(i));
            if (at < 0) {
                return i;
            }
        }
        return -9;
    }

    int walk(int what) {
        if (what < 0 || what > 6) {
            return refuse(-2);
        }
        if (!rowIsOfWays()) {
            return refuse(-3);
        }
        int stop = firstNotGone();
        return what == 0 ? stop : told(home, row.subList(0, stop < 0 ? row.size() : stop))[what - 1];
    }

    int judge() {
        if (!rowIsOfWays()) {
            return refuse(-3);
        }
        int stop = firstNotGone();
        row.clear();
        return stop;
    }

    int row(int v) {
        if (v < 0) {
            return refuse(-4);
        }
        if (v > 9 || row.size() == 20) {
            return refuse(-6);
        }
        row.add(v);
        return row.size();
    }

    int clear() {
        int had = row.size();
        row.clear();
        return had;
    }

    int lots(int n, int z, int what) {
        if (n < 1) {
            return refuse(-4);
        }
        if (n > 20) {
            return refuse(-6);
        }
        if (what < 0 || what > 1) {
            return refuse(-2);
        }
        long seed = z & 0xffffffffL;
        int all = 0;
        for (int i = 0; i < n; i++) {
            List<Integer> gone = new ArrayList<>();
            int at = home;
            for (int draw = 0; draw < 20; draw++) {
                seed = (seed * 1664525L + 1013904223L) % (1L << 32);
                int way = (int) (seed % (1L << 31) / 256 % 4);
                if (beside(at, way) >= 0) {
                    gone.add(way);
                    at = beside(at, way);
                }
            }
            all += told(home, gone)[1 + what];
        }
        return all;
    }

    // ---- steps

    private int stepsOf(int from, int to) {
        if (!can(from)) {
            return -9;
        }
        boolean[] come = new boolean[36];
        come[from] = true;
        for (int steps = 0; steps < 36; steps++) {
            if (come[to]) {
                return steps;
            }
            boolean[] then = come.clone();
            for (int s = 0; s < 36; s++) {
                for (int way = 0; come[s] && way < 4; way++) {
                    if (beside(s, way) >= 0) {
                        then[beside(s, way)] = true;
                    }
                }
            }
            come = then;
        }
        return -9;
    }

    int steps(int from, int to) {
        return no(from) || no(to) ? refuse(-1) : stepsOf(from, to);
    }

    int meet(int one, int other, int what) {
        if (no(one) || no(other)) {
            return refuse(-1);
        }
        if (what < 0 || what > 1) {
            return refuse(-2);
        }
        boolean[][] are = new boolean[36][36];
        are[one][other] = can(one) && can(other);
        for (int minutes = 0; minutes <= 36; minutes++) {
            for (int s = 0; s < 36; s++) {
                if (are[s][s]) {
                    return what == 0 ? minutes : s;
                }
            }
            are = aMinuteLater(are);
        }
        return -9;
    }

    private boolean[][] aMinuteLater(boolean[][] are) {
        boolean[][] then = new boolean[36][36];
        for (int a = 0; a < 36; a++) {
            for (int b = 0; b < 36; b++) {
                for (int moves = 0; are[a][b] && moves < 25; moves++) {
                    int nextA = moves / 5 == 4 ? a : beside(a, moves / 5);
                    int nextB = moves % 5 == 4 ? b : beside(b, moves % 5);
                    if (nextA >= 0 && nextB >= 0) {
                        then[nextA][nextB] = true;
                    }
                }
            }
        }
        return then;
    }

    int quiet() {
        int most = -1;
        int best = -9;
        for (int s = 0; s < 36; s++) {
            int near = 99;
            for (int h = 0; h < 36; h++) {
                int steps = can(h) && heardBy(h) > 0 ? stepsOf(h, s) : -9;
                near = steps < 0 ? near : Math.min(near, steps);
            }
            if (near < 99 && near > most) {
                most = near;
                best = s;
            }
        }
        return best;
    }

    int yards(int square) {
        if (no(square)) {
            return refuse(-1);
        }
        int near = 99;
        for (int s = 0; s < 36; s++) {
            int steps = turnIsCorner(s) && goesOnAside(s) ? stepsOf(square, s) : -9;
            near = steps < 0 ? near : Math.min(near, steps);
        }
        return near == 99 ? -9 : near;
    }

    private boolean goesOnAside(int s) {
        for (int way = 0; way < 4; way++) {
            for (int other = 0; other < way; other++) {
                // 0 and 3, 1 and 2 are opposite.
                if (way + other != 3 && beside(s, way) >= 0 && beside(s, other) >= 0) {
                    return true;
                }
            }
        }
        return false;
    }

    // ---- the cheapest walks

    /** Of all walks, by each way of coming to a square, the first: price, steps, first way, square, way of coming. */
    private List<int[]> firstWalks(int from, boolean byFines) {
        List<int[]> all = new ArrayList<>();
        boolean[] come = new boolean[36 * 5];
        Comparator<int[]> order = Comparator.<int[]>comparingInt(w -> w[0]).thenComparingInt(w -> w[1]).thenComparingInt(w -> w[2]);
        PriorityQueue<int[]> open = new PriorityQueue<>(order);
        if (can(from)) {
            open.add(new int[] {0, 0, NO_WAY, from, NO_WAY});
        }
        while (!open.isEmpty()) {
            int[] walk = open.remove();
            int s = walk[3];
            int came = walk[4];
            if (come[s * 5 + came + 1]) {
                continue;
            }
            come[s * 5 + came + 1] = true;
            all.add(walk);
            for (int way = 0; way < 4; way++) {
                boolean corner = isCorner(s, came, way);
                int price = byFines ? (corner ? 0 : toll(s)) : corner ? 1 : 0;
                if (beside(s, way) >= 0) {
                    open.add(new int[] {walk[0] + price, walk[1] + 1, walk[1] == 0 ? way : walk[2], beside(s, way), way});
                }
            }
        }
        return all;
    }

    private int[] fewestCorners(int from, int to) {
        for (int[] walk : firstWalks(from, false)) {
            if (walk[3] == to) {
                return new int[] {walk[0], walk[1], walk[2] == NO_WAY ? -9 : walk[2]};
            }
        }
        return new int[] {-9, -9, -9};
    }

    int corners(int from, int to, int what) {
        if (no(from) || no(to)) {
            return refuse(-1);
        }
        return what < 0 || what > 2 ? refuse(-2) : fewestCorners(from, to)[what];
    }

    int fines(int from, int to) {
        if (no(from) || no(to)) {
            return refuse(-1);
        }
        for (int[] walk : firstWalks(from, true)) {
            if (walk[3] == to) {
                return walk[0] + toll(to);
            }
        }
        return -9;
    }

    int roundOff(int from, int to) {
        if (no(from) || no(to)) {
            return refuse(-1);
        }
        int fewest = fewestCorners(from, to)[0];
        int best = -9;
        for (int s = 0; s < 36; s++) {
            int then = kind[s] == 's' ? with(s, 'c').fewestCorners(from, to)[0] : fewest;
            if (then < fewest) {
                fewest = then;
                best = s;
            }
        }
        return best;
    }

    int straight(int s, int way) {
        if (no(s)) {
            return refuse(-1);
        }
        return way < 0 || way > 3 ? refuse(-2) : straightOn(s, way);
    }

    private int straightOn(int s, int way) {
        return can(s) && beside(s, way) >= 0 ? 1 + straightOn(beside(s, way), way) : 0;
    }

    int longest(int what) {
        if (what < 0 || what > 1) {
            return refuse(-2);
        }
        for (int length = 5; length >= 0; length--) {
            for (int s = 0; s < 36; s++) {
                for (int way = 0; way < 4; way++) {
                    if (can(s) && straightOn(s, way) == length) {
                        return what == 0 ? length : s;
                    }
                }
            }
        }
        return -9;
    }

    // ---- what can be said

    private int refusalWithin(int s, int n, int least, int greatest) {
        return no(s) ? refuse(-1) : n < least ? refuse(-4) : n > greatest ? refuse(-6) : 0;
    }

    int words(int s, int n) {
        int refusal = refusalWithin(s, n, 0, 20);
        return refusal < 0 ? refusal : can(s) ? most(s, NO_WAY, n, false, new HashMap<>()) : -9;
    }

    int unheard(int s, int n) {
        int refusal = refusalWithin(s, n, 0, 20);
        int most = refusal < 0 || !can(s) ? -9 : most(s, NO_WAY, n, true, new HashMap<>());
        return refusal < 0 ? refusal : most < 0 ? -9 : most;
    }

    /** The most that can be said from here on in so many steps; below 0 if some word must be heard. */
    private int most(int s, int came, int n, boolean unheard, Map<Integer, Integer> known) {
        int key = (s * 5 + came + 1) * 21 + n;
        if (known.containsKey(key)) {
            return known.get(key);
        }
        boolean mute = unheard && wordsOf(s) > 0 && heardBy(s) > 0;
        int most = mute ? -9 : wordsOf(s);
        for (int way = 0; n > 0 && way < 4; way++) {
            boolean corner = isCorner(s, came, way);
            if (beside(s, way) >= 0 && (corner || !mute)) {
                int then = most(beside(s, way), way, n - 1, unheard, known);
                most = then < 0 ? most : Math.max(most, then + (corner ? 0 : wordsOf(s)));
            }
        }
        known.put(key, most);
        return most;
    }

    int talk(int from, int t) {
        int refusal = refusalWithin(from, t, 1, 40);
        if (refusal < 0) {
            return refusal;
        }
        // By square, way of coming and words of the run: whether one can be there so.
        boolean[][][] are = new boolean[36][5][43];
        are[from][0][wordsOf(from)] = can(from);
        for (int step = 0; step <= 40; step++) {
            boolean[][][] then = new boolean[36][5][43];
            for (int i = 0; i < 36 * 5 * 43; i++) {
                int s = i / 43 / 5;
                int came = i / 43 % 5 - 1;
                int run = i % 43;
                if (!are[s][came + 1][run]) {
                    continue;
                }
                if (run >= t) {
                    return step;
                }
                for (int way = 0; way < 4; way++) {
                    int there = beside(s, way);
                    if (there >= 0) {
                        then[there][way + 1][(isCorner(s, came, way) ? 0 : run) + wordsOf(there)] = true;
                    }
                }
            }
            are = then;
        }
        return -9;
    }

    int said(int what) {
        if (what < 0 || what > 1) {
            return refuse(-2);
        }
        if (row.isEmpty()) {
            return refuse(-3);
        }
        int many = 0;
        int least = -9;
        Map<Integer, Boolean> known = new HashMap<>();
        for (int s = 35; s >= 0; s--) {
            if (can(s) && canSay(s, NO_WAY, 0, known)) {
                many++;
                least = s;
            }
        }
        return what == 0 ? many : least;
    }

    private boolean canSay(int s, int came, int place, Map<Integer, Boolean> known) {
        int key = (s * 5 + came + 1) * 21 + place;
        if (known.containsKey(key)) {
            return known.get(key);
        }
        boolean can = place == row.size() - 1 && wordsOf(s) == row.get(place);
        for (int way = 0; place < row.size() - 1 && way < 4; way++) {
            int said = isCorner(s, came, way) ? 0 : wordsOf(s);
            can |= beside(s, way) >= 0 && said == row.get(place) && canSay(beside(s, way), way, place + 1, known);
        }
        known.put(key, can);
        return can;
    }

    // ---- who hears

    int newNiche(int what) {
        if (what < 0 || what > 1) {
            return refuse(-2);
        }
        int before = allHeard();
        int most = 0;
        int best = -9;
        for (int s = 0; s < 36; s++) {
            int more = s != home && can(s) ? with(s, 'n').allHeard() - before : 0;
            if (more > most) {
                most = more;
                best = s;
            }
        }
        return what == 0 ? best : most == 0 ? -9 : most;
    }

    int enough() {
        List<Integer> informers = new ArrayList<>();
        for (int s = 0; s < 36; s++) {
            if (ears(s) >= 0) {
                informers.add(s);
            }
        }
        if (informers.size() > 8) {
            return refuse(-3);
        }
        for (int many = 0; many <= informers.size(); many++) {
            for (int bits = 0; bits < 1 << informers.size(); bits++) {
                Model some = copy();
                for (int i = 0; i < informers.size(); i++) {
                    // Who is left out hears no more.
                    some.kind[informers.get(i)] = (bits >> i) % 2 == 1 ? kind[informers.get(i)] : 's';
                }
                if (Integer.bitCount(bits) == many && some.allHeard() == allHeard()) {
                    return bits;
                }
            }
        }
        return -99;
    }

    // ---- the image, counts

    int image() {
        kept = copy();
        return home;
    }

    int on() {
        if (kept == null) {
            return refuse(-3);
        }
        takeOver(kept);
        return home;
    }

    int count(int what) {
        if (what >= 11 && what <= 16) {
            return refusals[what - 10];
        }
        int[] all = {home, fine, breath, 0, 0, allHeard(), 0, row.size(), letters.length()};
        for (int s = 0; s < 36; s++) {
            all[3] += can(s) ? 1 : 0;
            all[4] += ears(s) > 0 ? 1 : 0;
            all[6] += kind[s] == 'c' || kind[s] == 'm' ? 1 : 0;
        }
        return what < 0 || what > 8 ? -9 : all[what];
    }

    /** The kinds of all squares, home, fine and breath. */
    String look() {
        return new String(kind) + " home " + home + " fine " + fine + " breath " + breath + " row " + row;
    }
}
