import java.util.ArrayList;
import java.util.List;
import java.util.regex.Matcher;
import java.util.regex.Pattern;

/** Small towns by lot; every search is made again here, slowly: by going all walks, or length by length. */
public final class NaiveTest {
    private static final int TOWNS = 400;
    private static final int DEPTH = 7;
    private static final int FAR = 1000000;
    private static int wrong = 0;
    private static long seed = 20261118L;

    private static int by(int n) {
        seed = seed * 6364136223846793005L + 1442695040888963407L;
        return (int) ((seed >>> 33) % n);
    }

    private static void due(String what, int got, int want) {
        if (got != want) {
            wrong++;
            if (wrong < 40) {
                System.out.println(what + " answered " + got + ", due is " + want + " in " + text);
            }
        }
    }

    private static String text = "";
    private static final char[] kind = new char[36];
    private static int home;
    private static int fine;
    private static int breath;
    private static LawOfCorners x;

    private static boolean can(int s) {
        return "scnm".indexOf(kind[s]) >= 0;
    }

    private static int said(int s) {
        return kind[s] == 'm' ? 2 : kind[s] == 's' || kind[s] == 'c' ? 1 : 0;
    }

    private static boolean turns(int s) {
        return kind[s] != 'c' && kind[s] != 'm';
    }

    private static int apart(int a, int b) {
        return Math.abs(a / 6 - b / 6) + Math.abs(a % 6 - b % 6);
    }

    private static int ears(int s) {
        int all = 0;
        for (int q = 0; q < 36; q++) {
            if (kind[q] == 'n' && apart(q, s) <= 1 || kind[q] == 't' && apart(q, s) <= 2) {
                all++;
            }
        }
        return all;
    }

    private static int go(int s, int way) {
        int r = s / 6 + (way == 0 ? -1 : way == 3 ? 1 : 0);
        int c = s % 6 + (way == 1 ? -1 : way == 2 ? 1 : 0);
        return r < 0 || r > 5 || c < 0 || c > 5 || !can(r * 6 + c) ? -1 : r * 6 + c;
    }

    /** What one walk gives: words, corners, cuts, fines, longest run, last run, words heard. */
    private static int[] tellOf(int from, List<Integer> ways, List<Integer> spoken) {
        List<Integer> squares = new ArrayList<>();
        squares.add(from);
        for (int w : ways) {
            squares.add(go(squares.get(squares.size() - 1), w));
        }
        int[] all = new int[7];
        List<Integer> runs = new ArrayList<>();
        int run = 0;
        spoken.clear();
        for (int i = 0; i < squares.size(); i++) {
            int s = squares.get(i);
            boolean corner = i > 0 && i < ways.size() && !ways.get(i - 1).equals(ways.get(i)) && turns(s);
            spoken.add(corner ? 0 : said(s));
            if (corner) {
                all[1]++;
                runs.add(run);
                run = 0;
            } else {
                run += said(s);
                all[0] += said(s);
                all[3] += said(s) * fine * ears(s);
                all[6] += ears(s) > 0 ? said(s) : 0;
            }
        }
        runs.add(run);
        all[2] = all[1];
        for (int r : runs) {
            all[2] += r == 0 ? 0 : (r - 1) / breath;
            all[4] = Math.max(all[4], r);
        }
        all[5] = run;
        return all;
    }

    private static void madeByLot(int walls) {
        home = by(36);
        fine = by(10);
        breath = 1 + by(9);
        StringBuilder told = new StringBuilder();
        x = new LawOfCorners();
        for (int s = 0; s < 36; s++) {
            kind[s] = by(100) < walls ? 'w' : "ssssscmnt".charAt(by(9));
        }
        if (!can(home)) {
            kind[home] = "scnm".charAt(by(4));
        }
        for (int s = 0; s < 36; s++) {
            told.append(kind[s]);
            if (s == home || can(s)) {
                x.turnTo(s, "swcntm".indexOf(kind[s]));
            }
        }
        x.set(0, home);
        for (int s = 0; s < 36; s++) {
            x.turnTo(s, "swcntm".indexOf(kind[s]));
        }
        x.set(1, fine);
        x.set(2, breath);
        text = told + " home " + home + " fine " + fine + " breath " + breath;
    }

    private static int[][] most;
    private static int[] talkAt;
    private static int[][] cheapest;
    private static List<Integer> rowAsked;
    private static boolean rowFound;

    private static void allWalks(int from, List<Integer> ways, int at) {
        List<Integer> spoken = new ArrayList<>();
        int[] of = tellOf(from, ways, spoken);
        int n = ways.size();
        most[0][n] = Math.max(most[0][n], of[0]);
        if (of[6] == 0) {
            most[1][n] = Math.max(most[1][n], of[0]);
        }
        for (int t = 1; t <= Math.min(40, of[5]); t++) {
            talkAt[t] = Math.min(talkAt[t], n);
        }
        cheapest[0][at] = Math.min(cheapest[0][at], of[1] * 1000 + n);
        cheapest[1][at] = Math.min(cheapest[1][at], of[3]);
        rowFound |= spoken.equals(rowAsked);
        for (int way = 0; n < DEPTH && way < 4; way++) {
            int there = go(at, way);
            if (there >= 0) {
                ways.add(way);
                allWalks(from, ways, there);
                ways.remove(ways.size() - 1);
            }
        }
    }

    private static void fillFar(int[] row) {
        java.util.Arrays.fill(row, FAR);
    }

    /** By lengths: fewest corners (corners * 1000 + steps) and fines of walks that begin with a way (or any, -1). */
    private static int[][] byLengths(int from, int firstWay) {
        int[][] best = new int[2][36];
        fillFar(best[0]);
        fillFar(best[1]);
        int[][][] now = new int[2][36][5];
        for (int m = 0; m < 2; m++) {
            for (int[] row : now[m]) {
                fillFar(row);
            }
        }
        now[0][from][4] = 0;
        now[1][from][4] = 0;
        for (int length = 0; length <= 180; length++) {
            int[][][] then = new int[2][36][5];
            for (int m = 0; m < 2; m++) {
                for (int s = 0; s < 36; s++) {
                    fillFar(then[m][s]);
                }
                for (int s = 0; s < 36; s++) {
                    for (int w = 0; w < 5; w++) {
                        if (now[m][s][w] >= FAR) {
                            continue;
                        }
                        int toll = m == 0 ? 0 : said(s) * fine * ears(s);
                        if (length > 0 || firstWay < 0) {
                            best[m][s] = Math.min(best[m][s], now[m][s][w] + toll);
                        }
                        for (int v = 0; v < 4; v++) {
                            int there = go(s, v);
                            if (there < 0 || (length == 0 && firstWay >= 0 && v != firstWay)) {
                                continue;
                            }
                            boolean corner = w < 4 && v != w && turns(s);
                            int price = m == 0 ? 1 + (corner ? 1000 : 0) : corner ? 0 : toll;
                            then[m][there][v] = Math.min(then[m][there][v], now[m][s][w] + price);
                        }
                    }
                }
            }
            now = then;
        }
        return best;
    }

    private static int[][] allSteps() {
        int[][] d = new int[36][36];
        for (int a = 0; a < 36; a++) {
            fillFar(d[a]);
            if (can(a)) {
                d[a][a] = 0;
                for (int way = 0; way < 4; way++) {
                    if (go(a, way) >= 0) {
                        d[a][go(a, way)] = 1;
                    }
                }
            }
        }
        for (int k = 0; k < 36; k++) {
            for (int a = 0; a < 36; a++) {
                for (int b = 0; b < 36; b++) {
                    d[a][b] = Math.min(d[a][b], d[a][k] + d[k][b]);
                }
            }
        }
        return d;
    }

    private static int orNone(int v) {
        return v >= FAR ? -9 : v;
    }

    private static void checkWalksFrom(int from) {
        most = new int[2][DEPTH + 1];
        for (int[] row : most) {
            java.util.Arrays.fill(row, -9);
        }
        talkAt = new int[41];
        fillFar(talkAt);
        cheapest = new int[2][36];
        fillFar(cheapest[0]);
        fillFar(cheapest[1]);
        rowAsked = new ArrayList<>();
        int length = 1 + by(DEPTH);
        for (int i = 0; i < length; i++) {
            rowAsked.add("0111112".charAt(by(7)) - '0');
        }
        rowFound = false;
        if (can(from)) {
            allWalks(from, new ArrayList<>(), from);
        }
        for (int m = 0; m < 2; m++) {
            int best = -9;
            for (int n = 0; n <= DEPTH; n++) {
                best = Math.max(best, most[m][n]);
                due((m == 0 ? "words(" : "unheard(") + from + ", " + n + ")", m == 0 ? x.words(from, n) : x.unheard(from, n), best);
            }
        }
        for (int t = 1; t <= 40; t++) {
            int got = x.talk(from, t);
            if (talkAt[t] < FAR || got >= 0 && got <= DEPTH) {
                due("talk(" + from + ", " + t + ")", got, orNone(talkAt[t]));
            }
        }
    }

    private static void checkRoutesFrom(int from) {
        int[][] best = can(from) ? byLengths(from, -1) : new int[][] {new int[36], new int[36]};
        if (!can(from)) {
            fillFar(best[0]);
            fillFar(best[1]);
        }
        int[][] first = new int[4][];
        for (int w = 0; w < 4 && can(from); w++) {
            first[w] = byLengths(from, w)[0];
        }
        for (int to = 0; to < 36; to++) {
            boolean way = best[0][to] < FAR;
            due("corners(" + from + ", " + to + ", 0)", x.corners(from, to, 0), way ? best[0][to] / 1000 : -9);
            due("corners(" + from + ", " + to + ", 1)", x.corners(from, to, 1), way ? best[0][to] % 1000 : -9);
            int firstWay = -9;
            for (int w = 3; w >= 0 && way && from != to; w--) {
                firstWay = first[w][to] == best[0][to] ? w : firstWay;
            }
            due("corners(" + from + ", " + to + ", 2)", x.corners(from, to, 2), firstWay);
            due("fines(" + from + ", " + to + ")", x.fines(from, to), orNone(best[1][to]));
            if (cheapest[0][to] < best[0][to] || cheapest[1][to] < best[1][to]) {
                due("a cheaper walk than by lengths " + from + " " + to, 0, 1);
            }
        }
    }

    private static void checkSteps() {
        int[][] d = allSteps();
        for (int a = 0; a < 36; a++) {
            int yards = FAR;
            for (int b = 0; b < 36; b++) {
                due("steps(" + a + ", " + b + ")", x.steps(a, b), orNone(d[a][b]));
                boolean upDown = go(b, 0) >= 0 || go(b, 3) >= 0;
                boolean leftRight = go(b, 1) >= 0 || go(b, 2) >= 0;
                if (upDown && leftRight && turns(b)) {
                    yards = Math.min(yards, d[a][b]);
                }
                int minutes = FAR;
                int place = -9;
                for (int s = 0; s < 36; s++) {
                    if (Math.max(d[a][s], d[b][s]) < minutes) {
                        minutes = Math.max(d[a][s], d[b][s]);
                        place = s;
                    }
                }
                due("meet(" + a + ", " + b + ", 0)", x.meet(a, b, 0), orNone(minutes));
                due("meet(" + a + ", " + b + ", 1)", x.meet(a, b, 1), place);
            }
            due("yards(" + a + ")", x.yards(a), orNone(yards));
        }
        int far = -1;
        int quiet = -9;
        for (int s = 0; s < 36; s++) {
            int near = FAR;
            for (int h = 0; h < 36; h++) {
                near = can(h) && ears(h) > 0 ? Math.min(near, d[s][h]) : near;
            }
            if (near < FAR && near > far) {
                far = near;
                quiet = s;
            }
        }
        due("quiet()", x.quiet(), quiet);
    }

    private static void checkRounding() {
        int from = by(36);
        int to = by(36);
        int before = x.corners(from, to, 0);
        int best = -9;
        int fewest = before;
        for (int s = 0; s < 36 && before > 0; s++) {
            if (kind[s] == 's') {
                x.turnTo(s, 2);
                if (x.corners(from, to, 0) < fewest) {
                    fewest = x.corners(from, to, 0);
                    best = s;
                }
                x.turnTo(s, 0);
            }
        }
        due("roundOff(" + from + ", " + to + ")", x.roundOff(from, to), best);
    }

    private static void checkHearing() {
        int heard = 0;
        for (int s = 0; s < 36; s++) {
            due("heard(" + s + ")", x.heard(s), ears(s));
            heard += ears(s) > 0 ? 1 : 0;
        }
        due("count(5)", x.count(5), heard);
        int best = -9;
        int most = 0;
        for (int s = 0; s < 36; s++) {
            if (s != home && can(s)) {
                int was = x.turnTo(s, 3);
                if (x.count(5) - heard > most) {
                    most = x.count(5) - heard;
                    best = s;
                }
                x.turnTo(s, was);
            }
        }
        due("newNiche(0)", x.newNiche(0), best);
        due("newNiche(1)", x.newNiche(1), most == 0 ? -9 : most);
        List<Integer> informers = new ArrayList<>();
        for (int s = 0; s < 36; s++) {
            if (kind[s] == 'n' || kind[s] == 't') {
                informers.add(s);
            }
        }
        due("count(4)", x.count(4), informers.size());
        if (informers.size() > 8) {
            due("enough()", x.enough(), -3);
            return;
        }
        long[] hears = new long[informers.size()];
        long union = 0;
        for (int i = 0; i < hears.length; i++) {
            int far = kind[informers.get(i)] == 'n' ? 1 : 2;
            for (int s = 0; s < 36; s++) {
                hears[i] |= apart(informers.get(i), s) <= far ? 1L << s : 0;
            }
            union |= hears[i];
        }
        int chosen = 0;
        for (int size = 0, found = -1; size <= hears.length && found < 0; size++) {
            for (int bits = 0; bits < 1 << hears.length && found < 0; bits++) {
                long of = 0;
                for (int i = 0; i < hears.length; i++) {
                    of |= (bits >> i & 1) == 1 ? hears[i] : 0;
                }
                if (Integer.bitCount(bits) == size && of == union) {
                    found = bits;
                    chosen = bits;
                }
            }
        }
        due("enough()", x.enough(), chosen);
    }

    private static void checkStraight() {
        int longest = -9;
        int start = -9;
        for (int s = 0; s < 36; s++) {
            for (int way = 0; way < 4; way++) {
                int gone = 0;
                for (int at = s; can(s) && go(at, way) >= 0; at = go(at, way)) {
                    gone++;
                }
                due("straight(" + s + ", " + way + ")", x.straight(s, way), gone);
                if (can(s) && gone > longest) {
                    longest = gone;
                    start = s;
                }
            }
        }
        due("longest(0)", x.longest(0), longest);
        due("longest(1)", x.longest(1), start);
    }

    private static void checkWalk() {
        List<Integer> ways = new ArrayList<>();
        int stop = -9;
        int at = home;
        x.clear();
        int length = by(21);
        for (int i = 0; i < length; i++) {
            int way = by(4);
            for (int again = 0; again < 6 && stop < 0 && go(at, way) < 0 && by(8) != 0; again++) {
                way = by(4);
            }
            x.row(way);
            if (stop < 0 && go(at, way) < 0) {
                stop = i;
            } else if (stop < 0) {
                at = go(at, way);
                ways.add(way);
            }
        }
        int[] of = tellOf(home, ways, new ArrayList<>());
        int[] want = {stop, at, of[0], of[1], of[2], of[3], of[4]};
        for (int what = 0; what < 7; what++) {
            due("walk(" + what + ") of " + ways, x.walk(what), want[what]);
        }
        due("judge()", x.judge(), stop);
        due("count(7)", x.count(7), 0);
    }

    private static void checkSaid() {
        int length = 1 + by(6);
        List<Integer> asked = new ArrayList<>();
        x.clear();
        for (int i = 0; i < length; i++) {
            asked.add("0111112".charAt(by(7)) - '0');
            x.row(asked.get(i));
        }
        int many = 0;
        int least = -9;
        for (int from = 35; from >= 0; from--) {
            if (can(from) && startsSo(from, from, new ArrayList<>(), asked)) {
                many++;
                least = from;
            }
        }
        due("said(0) of " + asked, x.said(0), many);
        due("said(1) of " + asked, x.said(1), least);
    }

    private static boolean startsSo(int from, int at, List<Integer> ways, List<Integer> asked) {
        if (ways.size() == asked.size() - 1) {
            List<Integer> spoken = new ArrayList<>();
            tellOf(from, ways, spoken);
            return spoken.equals(asked);
        }
        for (int way = 0; way < 4; way++) {
            if (go(at, way) >= 0) {
                ways.add(way);
                boolean found = startsSo(from, go(at, way), ways, asked);
                ways.remove(ways.size() - 1);
                if (found) {
                    return true;
                }
            }
        }
        return false;
    }

    private static void checkLots() {
        int n = 1 + by(20);
        int z = by(Integer.MAX_VALUE) * (by(2) == 0 ? 1 : -1);
        int state = z;
        int words = 0;
        int corners = 0;
        for (int i = 0; i < n; i++) {
            List<Integer> ways = new ArrayList<>();
            int at = home;
            for (int draw = 0; draw < 20; draw++) {
                state = (int) (state * 1664525L + 1013904223L);
                int way = (int) ((state & 0x7fffffffL) / 256 % 4);
                if (go(at, way) >= 0) {
                    at = go(at, way);
                    ways.add(way);
                }
            }
            int[] of = tellOf(home, ways, new ArrayList<>());
            words += of[0];
            corners += of[1];
        }
        due("lots(" + n + ", " + z + ", 0)", x.lots(n, z, 0), words);
        due("lots(" + n + ", " + z + ", 1)", x.lots(n, z, 1), corners);
    }

    private static final Pattern TOWN = Pattern.compile("(k[swcntm][0-9]{2};|v[swcntm][0-9]{4};|h[0-9]{2};|[fb][0-9];)+");

    private static String letters() {
        StringBuilder told = new StringBuilder();
        int statements = by(9);
        for (int i = 0; i < statements; i++) {
            int a = by(20) == 0 ? 30 + by(15) : by(36);
            int b = by(20) == 0 ? by(45) : Math.min(35, a + by(6));
            String two = (a < 10 ? "0" : "") + a;
            String four = two + (b < 10 ? "0" : "") + b;
            char k = "swcntm".charAt(by(6));
            switch (by(5)) {
                case 0 -> told.append('k').append(k).append(two).append(';');
                case 1 -> told.append('v').append(k).append(four).append(';');
                case 2 -> told.append('h').append(two).append(';');
                case 3 -> told.append('f').append(by(10)).append(';');
                default -> told.append('b').append(by(10)).append(';');
            }
        }
        if (by(2) == 0 && told.length() > 0) {
            int place = by(told.length());
            switch (by(3)) {
                case 0 -> told.deleteCharAt(place);
                case 1 -> told.setCharAt(place, "kvhfb;0129swcntmK\u00ff".charAt(by(18)));
                default -> told.insert(place, "kvhfb;0129swcntm".charAt(by(16)));
            }
        }
        return told.length() > 96 ? told.substring(0, 96) : told.toString();
    }

    private static int fault(String told) {
        for (int p = 0; p < told.length(); p++) {
            Matcher m = TOWN.matcher(told.substring(0, p + 1));
            if (!m.matches() && !m.hitEnd()) {
                return -1000 - p;
            }
        }
        if (!TOWN.matcher(told).matches()) {
            return -1000 - told.length();
        }
        int place = 0;
        int many = 0;
        for (String one : told.split(";")) {
            boolean kinds = one.charAt(0) == 'k' || one.charAt(0) == 'v';
            String number = one.substring(kinds ? 2 : 1);
            int first = Integer.parseInt(number.substring(0, Math.min(2, number.length())));
            int last = number.length() == 4 ? Integer.parseInt(number.substring(2)) : first;
            if (one.charAt(0) == 'b' && first == 0) {
                return -2000 - place;
            }
            if (number.length() > 1 && (first > 35 || last > 35 || first > last)) {
                return -2000 - place;
            }
            if (one.charAt(0) == 'h') {
                if (!can(first)) {
                    return -2000 - place;
                }
                home = first;
            }
            for (int s = first; kinds && s <= last; s++) {
                kind[s] = one.charAt(1);
            }
            if (!can(home)) {
                return -2000 - place;
            }
            fine = one.charAt(0) == 'f' ? first : fine;
            breath = one.charAt(0) == 'b' ? first : breath;
            place += one.length() + 1;
            many++;
        }
        return many;
    }

    private static void checkTown() {
        madeByLot(30);
        String told = letters();
        char[] was = kind.clone();
        int[] others = {home, fine, breath};
        text = text + " told " + told;
        for (int i = 0; i < told.length(); i++) {
            x.letter(told.charAt(i));
        }
        int want = fault(told);
        due("town()", x.town(), want);
        if (want < 0) {
            System.arraycopy(was, 0, kind, 0, 36);
            home = others[0];
            fine = others[1];
            breath = others[2];
        }
        for (int s = 0; s < 36; s++) {
            due("square(" + s + ", 0)", x.square(s, 0), "swcntm".indexOf(kind[s]));
        }
        due("home", x.count(0), home);
        due("fine", x.count(1), fine);
        due("breath", x.count(2), breath);
        due("letters", x.count(8), 0);
    }

    public static void main(String[] args) {
        for (int i = 0; i < TOWNS; i++) {
            madeByLot(20 + by(50));
            checkStraight();
            checkHearing();
            checkSteps();
            checkRounding();
            for (int again = 0; again < 8; again++) {
                checkWalk();
                checkSaid();
            }
            checkLots();
            int from = by(36);
            checkWalksFrom(from);
            checkRoutesFrom(from);
        }
        for (int i = 0; i < 20000; i++) {
            checkTown();
        }
        System.out.println(wrong == 0 ? "all towns are as due" : wrong + " answers are not as due");
        if (wrong != 0) {
            System.exit(1);
        }
    }
}
