import java.math.BigInteger;

/** The boundary cases of walks by the row: where they are cut, what they cost; judged, said and drawn by lot. */
public final class WalkBoundaryTest {
    private static final int MIN = Integer.MIN_VALUE;
    private static final int MAX = Integer.MAX_VALUE;

    private static void due(String call, int got, int want) {
        Checks.due(call, got, want);
    }

    /** What is due: the first that can not be gone, the square, words, corners, cuts, fines, the longest run. */
    private static void walks(String where, LawOfCorners x, int[] row, int... want) {
        Checks.withRow(x, row);
        for (int what = 0; what < 7; what++) {
            due(where + ": walk(" + what + ")", x.walk(what), want[what]);
        }
        due(where + ": the row stays", x.count(7), row.length);
    }

    private static int walked(LawOfCorners x, int what, int... row) {
        return Checks.withRow(x, row).walk(what);
    }

    private static int[] by(int... ways) {
        return ways;
    }

    private static int[] toAndFro(int many) {
        int[] all = new int[many];
        for (int i = 0; i < many; i++) {
            all[i] = i % 2 == 0 ? 2 : 1;
        }
        return all;
    }

    private static void firstThatCanNotBe() {
        Checks.sentence("Of a WALK from HOME by a ROW of WAYS: the first that can not be gone (-9); of all ahead of that: the SQUARE at the end, words, CORNERS, CUTS, FINES, the longest run of words without a CORNER.");
        LawOfCorners x = Checks.made(Checks.CORRIDOR);
        walks("none", x, by(), -9, 0, 1, 0, 0, 0, 1);
        walks("at 0", x, by(1), 0, 0, 1, 0, 0, 0, 1);
        walks("at 0, ways behind it", x, by(1, 2, 2), 0, 0, 1, 0, 0, 0, 1);
        walks("at 1", x, by(2, 3, 2), 1, 1, 2, 0, 0, 0, 2);
        walks("at 1, none behind", x, by(2, 0), 1, 1, 2, 0, 0, 0, 2);
        // On 5 one would turn, but does not go on: no corner.
        walks("at 5", x, by(2, 2, 2, 2, 2, 2), 5, 5, 6, 0, 1, 0, 6);
        int[] full = by(2, 2, 2, 2, 2, 1, 1, 1, 1, 1, 2, 2, 2, 2, 2, 1, 2, 1, 2, 2);
        walks("at 19, the last of 20", x, full, 19, 5, 14, 6, 6, 0, 5);
        full[19] = 1;
        walks("none of 20", x, full, -9, 4, 14, 7, 7, 0, 5);
        Checks.sentence("WAYS 0 up, 1 left, 2 right, 3 down, to the SQUARE beside in the town");
        int[][] atTheEdge = {{0, 0}, {5, 0}, {0, 1}, {6, 1}, {30, 1}, {5, 2}, {11, 2}, {35, 2}, {30, 3}, {35, 3}};
        for (int[] edge : atTheEdge) {
            x = new LawOfCorners();
            x.set(0, edge[0]);
            due("walk(0) from " + edge[0] + " by " + edge[1], walked(x, 0, edge[1]), 0);
            due("walk(1) from " + edge[0] + " by " + edge[1], x.walk(1), edge[0]);
        }
        Checks.sentence("w WALL under STREET: not; .. t TURRET under WALL");
        String[] kinds = {"s", "w", "c", "n", "t", "m"};
        int[] squares = {8, 13, 15, 20};
        for (String kind : kinds) {
            boolean can = !kind.equals("w") && !kind.equals("t");
            for (int way = 0; way < 4; way++) {
                x = Checks.made("h14;k" + kind + (squares[way] == 8 ? "0" : "") + squares[way] + ";");
                due("walk(0) by " + way + " to a " + kind, walked(x, 0, way), can ? -9 : 0);
                due("walk(1) by " + way + " to a " + kind, x.walk(1), can ? squares[way] : 14);
            }
        }
    }

    private static void oneBehindTheOther() {
        Checks.sentence("A WALK: from a SQUARE by WAYS one behind the other.");
        int[] ways = {0, 2, 3, 3, 1, 0, 1, 1, 3, 2, 2, 2, 2, 2, 0, 0, 0, 1, 1, 3};
        int[] squares = {14, 8, 9, 15, 21, 20, 14, 13, 12, 18, 19, 20, 21, 22, 23, 17, 11, 5, 4, 3, 9};
        LawOfCorners x = Checks.made("h14;");
        for (int n = 0; n <= 20; n++) {
            due("the SQUARE behind " + n + " WAYS", walked(x, 1, java.util.Arrays.copyOf(ways, n)), squares[n]);
            due("all can be gone, " + n + " WAYS", x.walk(0), -9);
        }
        Checks.sentence("On each SQUARE of it, first and last too, its WORDS are said, at a CORNER none.");
        int corners = 0;
        for (int n = 0; n <= 20; n++) {
            corners += n > 1 && ways[n - 1] != ways[n - 2] ? 1 : 0;
            due("CORNERS of " + n + " WAYS", walked(x, 3, java.util.Arrays.copyOf(ways, n)), corners);
            due("words of " + n + " WAYS", x.walk(2), n + 1 - corners);
        }
        // 2, 3, 4 with a MARKET on each of the ends and in the middle.
        x = Checks.made(Checks.CORRIDOR + "h02;km02;");
        due("the first is a MARKET", walked(x, 2, 2, 2), 4);
        due("the first is a MARKET, the middle, too", x.turnTo(3, 5) + walked(x, 2, 2, 2), 5);
        due("all three are", x.turnTo(4, 5) + walked(x, 2, 2, 2), 6);
        due("on and back over the three", walked(x, 2, 2, 2, 1, 1), 10);
    }

    private static void corners() {
        Checks.sentence("A SQUARE of it is a CORNER, if one comes to it by a WAY and goes from it by another one (back by which one came, too) and a turn there is a CORNER.");
        LawOfCorners x = Checks.made("h14;");
        for (int came = 0; came < 4; came++) {
            for (int goes = 0; goes < 4; goes++) {
                due("walk(3) by " + came + ", " + goes, walked(x, 3, came, goes), came == goes ? 0 : 1);
                due("walk(2) by " + came + ", " + goes, x.walk(2), came == goes ? 3 : 2);
            }
            due("walk(3) by " + came + " alone", walked(x, 3, came), 0);
        }
        due("the first and the last are none", walked(x, 3), 0);
        due("a loop: the first square is come to again and ends it", walked(x, 3, 2, 3, 1, 0), 3);
        due("a loop gone on: the first square is one then", walked(x, 3, 2, 3, 1, 0, 2), 4);
        Checks.sentence("c CRESCENT under STREET: not a CORNER. n NICHE under STREET: 0; .. m MARKET under CRESCENT: 2.");
        int[] canBe = {0, 2, 3, 5};
        int[] words = {1, 1, 0, 2};
        for (int i = 0; i < 4; i++) {
            x = Checks.made("h14;f0;");
            x.turnTo(15, canBe[i]);
            boolean turns = canBe[i] == 0 || canBe[i] == 3;
            due("straight over kind " + canBe[i] + ": corners", walked(x, 3, 2, 2), 0);
            due("straight over kind " + canBe[i] + ": words", x.walk(2), 2 + words[i]);
            due("round on kind " + canBe[i] + ": corners", walked(x, 3, 2, 3), turns ? 1 : 0);
            due("round on kind " + canBe[i] + ": words", x.walk(2), turns ? 2 : 2 + words[i]);
            due("back on kind " + canBe[i] + ": corners", walked(x, 3, 2, 1), turns ? 1 : 0);
            due("back on kind " + canBe[i] + ": longest run", x.walk(6), turns ? 1 : 2 + words[i]);
            due("the last, of kind " + canBe[i], walked(x, 2, 2), 1 + words[i]);
            x.set(0, 15);
            due("the first, of kind " + canBe[i], walked(x, 2, 2), 1 + words[i]);
            due("alone, of kind " + canBe[i], walked(x, 2), words[i]);
        }
    }

    private static void cuts() {
        Checks.sentence("for a run of words (from CORNER to CORNER) as often more as BREATH goes into words but one, cut");
        LawOfCorners x = Checks.made(Checks.CORRIDOR);
        int[][] want = {{}, {0, 1, 2, 3, 4, 5}, {0, 0, 1, 1, 2, 2}, {0, 0, 0, 1, 1, 1}, {0, 0, 0, 0, 1, 1}, {0, 0, 0, 0, 0, 1},
            {0, 0, 0, 0, 0, 0}, {0, 0, 0, 0, 0, 0}, {0, 0, 0, 0, 0, 0}, {0, 0, 0, 0, 0, 0}};
        for (int breath = 1; breath <= 9; breath++) {
            x.set(2, breath);
            for (int words = 1; words <= 6; words++) {
                due("cuts of " + words + " words by " + breath, walked(x, 4, Checks.times(words - 1, 2)), want[breath][words - 1]);
            }
        }
        x = Checks.made(Checks.CORRIDOR + "vm0003;b9;");
        due("9 words by 9", walked(x, 4, 2, 2, 2, 2), 0);
        due("10 words by 9", walked(x, 4, 2, 2, 2, 2, 2), 1);
        x = Checks.made(Checks.CORRIDOR + "vm0005;b9;");
        due("18 words by 9", walked(x, 4, Checks.times(8, 2)), 1);
        due("18 words by 9, then one more square", walked(x, 4, 2, 2, 2, 2, 2, 1, 1, 1), 1);
        due("20 words by 9", walked(x, 4, 2, 2, 2, 2, 2, 1, 1, 1, 1), 2);
        due("42 words by 9", walked(x, 4, toAndFro(20)), 4);
        x.set(2, 1);
        due("42 words by 1", walked(x, 4, toAndFro(20)), 41);
        Checks.sentence("BREATH (1 .. 9: 5 at first): words that can be said without a cut.");
        x = Checks.made("vc0035;");
        due("5 words at first", walked(x, 4, 2, 2, 2, 2), 0);
        due("6 words at first", walked(x, 4, 2, 2, 2, 2, 2), 1);
        for (int breath = 1; breath <= 9; breath++) {
            x.set(2, breath);
            due(breath + " words by " + breath, walked(x, 4, java.util.Arrays.copyOf(toAndFro(20), breath - 1)), 0);
            due(breath + " words and one by " + breath, walked(x, 4, java.util.Arrays.copyOf(toAndFro(20), breath)), 1);
        }
        Checks.sentence("CUTS: CORNERS of it; and for a run of words .. (0 for no words).");
        for (int breath = 1; breath <= 9; breath++) {
            x = Checks.made("vn0035;b" + breath + ";");
            due("no words by " + breath, walked(x, 4), 0);
            due("no words, straight, by " + breath, walked(x, 4, 2, 2, 2), 0);
            due("no words, one corner, by " + breath, walked(x, 4, 2, 1), 1);
            due("no words, 19 corners, by " + breath, walked(x, 4, toAndFro(20)), 19);
            x = Checks.made(Checks.CORRIDOR + "b" + breath + ";");
            due("19 corners one behind the other, by " + breath, walked(x, 4, toAndFro(20)), 19);
            due("one word at each end, by " + breath, x.walk(2), 2);
        }
        Checks.sentence("for a run of words (from CORNER to CORNER)");
        x = Checks.made(Checks.CORRIDOR + "b3;");
        // Runs 0 .. 4 (5 words), 4 .. 1 (4 words), 1 .. 2 (2 words).
        due("5, 4 and 2 words by 3", walked(x, 4, 2, 2, 2, 2, 2, 1, 1, 1, 1, 1, 2, 2), 4);
        due("a run over a crescent is one", overCrescent(), 1);
    }

    private static int overCrescent() {
        LawOfCorners x = Checks.made(Checks.CORRIDOR + "kc02;b4;");
        return walked(x, 4, 2, 2, 1, 1);
    }

    private static void finesOfAWalk() {
        Checks.sentence("FINES: for each word said FINE times HEARD by.");
        LawOfCorners x = Checks.made(Checks.CORRIDOR + "kt08;kt09;f1;");
        // Heard by: 0 by none, 1 by one, 2 by two, 3 by two, 4 by one, 5 by none.
        int[] heard = {0, 1, 2, 2, 1, 0};
        for (int s = 0; s < 6; s++) {
            x.set(0, s);
            due("alone on " + s, walked(x, 5), heard[s]);
        }
        x.set(0, 0);
        due("all", walked(x, 5, 2, 2, 2, 2, 2), 6);
        due("2 is a corner", walked(x, 5, 2, 2, 1), 2);
        due("2 is the last", walked(x, 5, 2, 2), 3);
        x.set(0, 2);
        due("2 is the first", walked(x, 5, 2), 4);
        due("2 twice, 3 a corner", walked(x, 5, 2, 1), 4);
        for (int fine = 0; fine <= 9; fine++) {
            x.set(1, fine);
            due("by " + fine, walked(x, 5, 2, 1), 4 * fine);
        }
        x.turnTo(2, 5);
        due("two words each on a market", walked(x, 5, 2, 1), 72);
        x.turnTo(2, 3);
        due("no word on a niche", walked(x, 5, 2, 1), 0);
        due("none hears", walked(new LawOfCorners(), 5, 2, 2), 0);
        x = Checks.made("kt01;");
        due("on 0", walked(x, 5), 2);
        x = Checks.made("h35;kt34;");
        due("on 35", walked(x, 5), 2);
        x = Checks.made("vm0035;h14;");
        for (int s : new int[] {2, 7, 9, 12, 16, 19, 21, 26, 8, 13, 20}) {
            x.turnTo(s, 4);
        }
        x.set(1, 9);
        // All 11 hear 14.
        due("heard by many: on 14", walked(x, 5), 2 * 9 * 11);
        due("heard by many: on 15", walked(x, 5, 2), 2 * 9 * 11 + 2 * 9 * x.heard(15));
        due("heard(15)", x.heard(15), heardOn15());
    }

    private static int heardOn15() {
        int all = 0;
        for (int s : new int[] {2, 7, 9, 12, 16, 19, 21, 26, 8, 13, 20}) {
            all += Math.abs(s / 6 - 2) + Math.abs(s % 6 - 3) <= 2 ? 1 : 0;
        }
        return all;
    }

    private static void longestRun() {
        Checks.sentence("the longest run of words without a CORNER");
        LawOfCorners x = Checks.made(Checks.CORRIDOR);
        due("one square", walked(x, 6), 1);
        due("the first run", walked(x, 6, 2, 2, 2, 1), 3);
        due("the last run", walked(x, 6, 2, 1, 2, 2, 2), 3);
        due("one in the middle", walked(x, 6, 2, 1, 2, 2, 2, 2, 2, 1, 2), 4);
        due("of two alike", walked(x, 6, 2, 2, 1, 1), 2);
        due("words, not squares", walked(Checks.made(Checks.CORRIDOR + "km01;"), 6, 2, 2, 1), 3);
        due("no words", walked(Checks.made("vn0035;"), 6, 2, 2, 3, 3), 0);
        due("a niche does not end it", walked(Checks.made("f0;kn01;"), 6, 2, 2), 2);
    }

    private static void noWays() {
        Checks.sentence("-2; -3 one of it is no WAY. .. (the ROW stays)");
        LawOfCorners x = Checks.made(Checks.CORRIDOR);
        for (int number = 0; number <= 9; number++) {
            boolean way = number <= 3;
            for (int what = 0; what < 7; what++) {
                int got = walked(x, what, number);
                due("walk(" + what + ") by " + number + ", no way or one", got == -3 ? 1 : 0, way ? 0 : 1);
            }
            due("walk(0) by " + number, walked(x, 0, number), !way ? -3 : number == 2 ? -9 : 0);
            due("the row stays", x.count(7), 1);
            due("judge() of " + number, x.judge(), !way ? -3 : number == 2 ? -9 : 0);
            due("the row is judged", x.count(7), way ? 0 : 1);
        }
        due("walk(-1)", x.walk(-1), -2);
        due("walk(7)", x.walk(7), -2);
    }

    private static void judge() {
        Checks.sentence("JUDGED; -9 (whichever it answers, the ROW has none then). -3 one of it is no WAY (it stays).");
        LawOfCorners x = Checks.made(Checks.CORRIDOR);
        int[][] rows = {{}, {2}, {1}, {2, 2, 2, 2, 2}, {2, 2, 2, 2, 2, 2}, {2, 1, 1}, {2, 0, 1}, toAndFro(20)};
        int[] want = {-9, -9, 0, -9, 5, 2, 1, -9};
        for (int i = 0; i < rows.length; i++) {
            due("judge() of row " + i, Checks.withRow(x, rows[i]).judge(), want[i]);
            due("the row has none", x.count(7), 0);
            due("judge() of none", x.judge(), -9);
            due("row(1) is the first", x.row(1), 1);
        }
        int[] last = toAndFro(20);
        last[19] = 0;
        due("judge() of 20, the last can not be gone", Checks.withRow(x, last).judge(), 19);
        last[19] = 4;
        due("judge() of 20, the last no way", Checks.withRow(x, last).judge(), -3);
        due("it stays", x.count(7), 20);
        due("it is as it was: no room", x.row(0), -6);
        judgedFromHome();
        due("clear()", x.clear(), 20);
    }

    private static void judgedFromHome() {
        Checks.sentence("A ROW of WAYS (0 .. 3): JUDGED: the first that can not be gone (from HOME); -9.");
        int[] homes = {0, 5, 14, 30, 35};
        int[][] rows = {{0, 0, 0}, {1, 1, 1}, {2, 2, 2, 2}, {3, 3, 3, 3}, {2, 3, 1, 0}};
        int[][] want = {{0, 0, 2, -9, -9}, {0, -9, 2, 0, -9}, {-9, 0, 3, -9, 0}, {-9, -9, 3, 0, 0}, {-9, 0, -9, 1, 0}};
        for (int i = 0; i < rows.length; i++) {
            for (int j = 0; j < homes.length; j++) {
                LawOfCorners x = Checks.made("h" + homes[j] / 10 + homes[j] % 10 + ";");
                due("judge() of row " + i + " from " + homes[j], Checks.withRow(x, rows[i]).judge(), want[i][j]);
            }
        }
    }

    private static void row() {
        Checks.sentence("A number more of the ROW (0 .. 9): how many. -4; -6 (9; 20, too).");
        LawOfCorners x = new LawOfCorners();
        due("row(-1)", x.row(-1), -4);
        due("row(10)", x.row(10), -6);
        due("count(7)", x.count(7), 0);
        for (int i = 0; i < 20; i++) {
            due("row(" + i % 10 + ")", x.row(i % 10), i + 1);
        }
        due("row(0) to 20", x.row(0), -6);
        due("row(-1) to 20", x.row(-1), -4);
        due("count(7)", x.count(7), 20);
        Checks.sentence("The ROW has none then: how many it had.");
        due("clear() of 20", x.clear(), 20);
        due("clear() of none", x.clear(), 0);
        due("said(0)", x.said(0), -3);
        due("row(9)", x.row(9), 1);
        due("clear() of one", x.clear(), 1);
        due("clear() is no refusal", x.count(13), 1);
        Checks.withRow(x, 9, 9, 9);
        Checks.withRow(x, 2);
        due("what it had is no more: walk(0)", x.walk(0), -9);
        due("what it had is no more: said(0)", x.said(0), 0);
        due("what it had is no more: judge()", x.judge(), -9);
        Checks.withRow(x, 1, 1, 1);
        Checks.withRow(x, 1);
        due("what it had is no more: said(0)", x.said(0), 36);
        Checks.withRow(x, 2, 2, 2);
        Checks.withRow(x, 2);
        due("what it had is no more: walk(1)", x.walk(1), 1);
    }

    private static void says(String town, int many, int least, int... row) {
        LawOfCorners x = Checks.withRow(town.isEmpty() ? new LawOfCorners() : Checks.made(town), row);
        String asked = " of " + java.util.Arrays.toString(row) + " in '" + town + "'";
        due("said(0)" + asked, x.said(0), many);
        due("said(1)" + asked, x.said(1), least);
        due("the row stays" + asked, x.count(7), row.length);
    }

    private static void said() {
        Checks.sentence("SAID: a ROW of numbers (0 .. 9) tells words said on the SQUARES of a WALK one behind the other, first and last too");
        says("", 36, 0, 1);
        says("h35;vw0034;", 1, 35, 1);
        says("h35;vw0034;", 0, -9, 1, 1);
        says("h35;vt0034;", 0, -9, 0);
        says(Checks.CORRIDOR, 0, -9, 0);
        says(Checks.CORRIDOR, 0, -9, 0, 1);
        says(Checks.CORRIDOR, 0, -9, 1, 0);
        says(Checks.CORRIDOR, 6, 0, 1, 0, 1);
        says("h20;kn35;", 1, 35, 0);
        says("h20;kn35;", 2, 29, 1, 0);
        says("h20;kn35;", 1, 35, 0, 1);
        says("km35;", 1, 35, 2);
        says("km35;", 35, 0, 1);
        Checks.sentence("a ROW of numbers (0 .. 9)");
        for (int number = 3; number <= 9; number++) {
            says("vm0035;", 0, -9, number);
            says("vm0035;", 0, -9, 2, number);
            says("vm0035;", 0, -9, number, 2);
        }
        says("vm0035;", 36, 0, 2);
        says("vm0035;", 0, -9, 2, 0, 2);
        says("vm0035;", 36, 0, Checks.times(20, 2));
        Checks.sentence("from how many SQUARES some WALK can have been so (any WAYS); the least; -9.");
        says(Checks.CORRIDOR, 2, 0, 1, 1, 1, 1, 1, 1);
        says(Checks.CORRIDOR, 0, -9, 1, 1, 1, 1, 1, 1, 1);
        says(Checks.CORRIDOR + "vc0005;", 6, 0, Checks.times(20, 1));
        int[] corners = Checks.times(20, 0);
        corners[0] = 1;
        corners[19] = 1;
        says(Checks.CORRIDOR, 6, 0, corners);
        says(Checks.CORRIDOR + "vc0005;", 0, -9, corners);
        corners[19] = 0;
        says(Checks.CORRIDOR, 0, -9, corners);
        // From 0 only straight on to 5 and back: the corner is the sixth.
        says(Checks.CORRIDOR, 2, 0, 1, 1, 1, 1, 1, 0, 1, 1, 1, 1, 1);
        says(Checks.CORRIDOR + "ks11;", 2, 0, 1, 1, 1, 1, 1, 0, 1);
        // From 1 by 0, from 4 by 5, from 11 by 5.
        says(Checks.CORRIDOR + "ks11;", 3, 1, 1, 0, 1, 1, 1, 1, 1);
        says(Checks.CORRIDOR + "km05;kn01;", 1, 5, 2, 1, 1, 1, 0, 1);
        Checks.sentence("-2; -3 the ROW has none.");
        LawOfCorners x = new LawOfCorners();
        due("said(0)", x.said(0), -3);
        due("said(1)", x.said(1), -3);
        due("said(2)", x.said(2), -2);
        due("said(-1)", x.said(-1), -2);
        x.row(1);
        due("said(0) of one", x.said(0), 36);
        due("said(2) of one", x.said(2), -2);
    }

    /** The draws and the walks once more, in long arithmetic that can not wrap around. */
    private static int[] lotsBy(int n, int seed, String kinds, int home) {
        long z = seed & 0xffffffffL;
        int words = 0;
        int corners = 0;
        for (int walk = 0; walk < n; walk++) {
            int at = home;
            int came = -1;
            for (int draw = 0; draw < 20; draw++) {
                z = (z * 1664525L + 1013904223L) % 4294967296L;
                int way = (int) (z % 2147483648L / 256 % 4);
                int row = at / 6 + new int[] {-1, 0, 0, 1}[way];
                int column = at % 6 + new int[] {0, -1, 1, 0}[way];
                if (row < 0 || row > 5 || column < 0 || column > 5 || "wt".indexOf(kinds.charAt(row * 6 + column)) >= 0) {
                    continue;
                }
                boolean corner = came >= 0 && came != way && "sn".indexOf(kinds.charAt(at)) >= 0;
                corners += corner ? 1 : 0;
                words += corner ? 0 : wordsOf(kinds.charAt(at));
                at = row * 6 + column;
                came = way;
            }
            words += wordsOf(kinds.charAt(at));
        }
        return new int[] {words, corners};
    }

    private static int wordsOf(char kind) {
        return kind == 'm' ? 2 : kind == 's' || kind == 'c' ? 1 : 0;
    }

    /** HOME and one square beside it: one goes to and fro, so that all but the first and the last are corners. */
    private static void firstDraws() {
        int[] seeds = {0, 1, -1, MIN, MAX};
        int[] squares = {8, 13, 15, 20};
        for (int seed : seeds) {
            for (int way = 0; way < 4; way++) {
                int gone = 0;
                BigInteger z = BigInteger.valueOf(seed);
                for (int draw = 0; draw < 20; draw++) {
                    BigInteger product = z.multiply(BigInteger.valueOf(1664525)).add(BigInteger.valueOf(1013904223));
                    z = BigInteger.valueOf(product.intValue());
                    int drawn = z.and(BigInteger.valueOf(MAX)).intValue() / 256 % 4;
                    boolean there = gone % 2 == 1;
                    gone += drawn == (there ? 3 - way : way) ? 1 : 0;
                }
                LawOfCorners x = Checks.made("h14;vw0013;vw1535;" + (squares[way] == 8 ? "ks08;" : "ks" + squares[way] + ";"));
                due("lots(1, " + seed + ", 0), a square by " + way, x.lots(1, seed, 0), Math.min(gone + 1, 2));
                due("lots(1, " + seed + ", 1), a square by " + way, x.lots(1, seed, 1), Math.max(gone - 1, 0));
            }
        }
    }

    private static void lots() {
        Checks.sentence("LOTS with a seed z: n walks (1 .. 20) from HOME, each 20 DRAWS below 4");
        String plain = "s".repeat(36);
        String mixed = "sscmnswwsctsmsnsscstsswmsscnsmstscss";
        int[] seeds = {0, 1, -1, MIN, MAX, 256, -256, 1 << 30, 7, -12345, 1013904223};
        for (String kinds : new String[] {plain, mixed}) {
            LawOfCorners x = new LawOfCorners();
            for (int s = 0; s < 36; s++) {
                x.turnTo(s, "swcntm".indexOf(kinds.charAt(s)));
            }
            for (int home : new int[] {0, 15, 35}) {
                x.set(0, home);
                for (int seed : seeds) {
                    for (int n : new int[] {1, 2, 20}) {
                        int[] want = lotsBy(n, seed, kinds, home);
                        due("lots(" + n + ", " + seed + ", 0)", x.lots(n, seed, 0), want[0]);
                        due("lots(" + n + ", " + seed + ", 1)", x.lots(n, seed, 1), want[1]);
                    }
                }
            }
        }
        Checks.sentence("A DRAW below m: z becomes z times 1664525 and 1013904223 (an int); (z without its sign's bit by 256, cut) modulo m");
        // Only 0 and the square below it: of the draws those of 3 and 0 by turns are gone.
        for (int seed : seeds) {
            int[] want = lotsBy(20, seed, "swwwwws" + "w".repeat(29), 0);
            LawOfCorners x = Checks.made("vw0135;ks06;");
            due("lots(20, " + seed + ", 0) of two squares", x.lots(20, seed, 0), want[0]);
            due("lots(20, " + seed + ", 1) of two squares", x.lots(20, seed, 1), want[1]);
        }
        firstDraws();
        Checks.sentence("(a WAY; one that can not be gone: stays, no turn): all words said in these; all CORNERS.");
        LawOfCorners x = Checks.made("vw0135;");
        for (int n = 1; n <= 20; n++) {
            due("lots(" + n + ", 5, 0): HOME alone", x.lots(n, 5, 0), n);
            due("lots(" + n + ", 5, 1): HOME alone", x.lots(n, 5, 1), 0);
        }
        Checks.sentence("LOTS: words (what 0), CORNERS (1). -4; -6 20; -2.");
        due("lots(0, 0, 0)", x.lots(0, 0, 0), -4);
        due("lots(-1, 0, 0)", x.lots(-1, 0, 0), -4);
        due("lots(21, 0, 0)", x.lots(21, 0, 0), -6);
        due("lots(20, 0, 2)", x.lots(20, 0, 2), -2);
        due("lots(1, 0, -1)", x.lots(1, 0, -1), -2);
        x.row(3);
        due("the row stays", x.lots(1, MIN, 0) + x.count(7), 2);
    }

    public static void main(String[] args) {
        firstThatCanNotBe();
        oneBehindTheOther();
        corners();
        cuts();
        finesOfAWalk();
        longestRun();
        noWays();
        judge();
        row();
        said();
        lots();
        Checks.end("WalkBoundaryTest");
    }
}
