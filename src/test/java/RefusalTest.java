import java.util.function.ToIntFunction;

/** Every refused call: what it answers, that it is counted once, and that it changes nothing else. */
public final class RefusalTest {
    private static final int MIN = Integer.MIN_VALUE;
    private static final int MAX = Integer.MAX_VALUE;
    private static final int[] NO_SQUARE = {-1, 36, 37, 99, -2, MIN, MAX};

    private static int calls = 0;

    private static void due(String call, int got, int want) {
        Checks.due(call, got, want);
    }

    /** A town with an image of another one behind it, an unfinished text and a row. */
    private static LawOfCorners busy(int... row) {
        LawOfCorners x = Checks.made("h07;f3;b4;kw22;kt20;kn14;kc09;km10;");
        x.image();
        Checks.tell(x, "h08;f4;b3;kt01;kw02;");
        for (char c : "kc0".toCharArray()) {
            x.letter(c);
        }
        return Checks.withRow(x, row);
    }

    private static LawOfCorners fresh(int... row) {
        return Checks.withRow(new LawOfCorners(), row);
    }

    /** All that can be asked of an object, its letters, row and image at last used up. */
    private static int[] allOf(LawOfCorners x) {
        int[] all = new int[120];
        int n = 0;
        for (int what = 0; what <= 8; what++) {
            all[n++] = x.count(what);
        }
        for (int s = 0; s < 36; s++) {
            all[n++] = x.square(s, 0);
        }
        // Digit by digit the row itself: what is behind it, is told by its places.
        for (int what = 0; what <= 6; what++) {
            all[n++] = x.walk(what);
        }
        all[n++] = x.said(0);
        all[n++] = x.said(1);
        x.letter('3');
        x.letter(';');
        all[n++] = x.town();
        all[n++] = x.square(3, 0);
        all[n++] = x.on();
        for (int s = 0; s < 36; s++) {
            all[n++] = x.square(s, 0);
        }
        for (int what = 0; what <= 3; what++) {
            all[n++] = x.count(what);
        }
        return all;
    }

    private static void refuses(String call, LawOfCorners x, LawOfCorners twin, ToIntFunction<LawOfCorners> one, int want) {
        calls++;
        int[] counts = new int[7];
        for (int i = 1; i <= 6; i++) {
            counts[i] = x.count(10 + i);
        }
        for (int again = 1; again <= 2; again++) {
            due(call, one.applyAsInt(x), want);
            for (int i = 1; i <= 6; i++) {
                due("count(" + (10 + i) + ") behind " + call, x.count(10 + i), counts[i] + (i == -want ? again : 0));
            }
        }
        int[] left = allOf(x);
        int[] due = allOf(twin);
        for (int i = 0; i < due.length; i++) {
            due("answer " + i + " behind " + call, left[i], due[i]);
        }
    }

    /** In several states, with rows that every method but the one refused can take. */
    private static void refuses(String call, ToIntFunction<LawOfCorners> one, int want) {
        refuses(call, fresh(), fresh(), one, want);
        refuses(call, fresh(2, 3, 3), fresh(2, 3, 3), one, want);
        refuses(call, busy(), busy(), one, want);
        refuses(call, busy(1, 0, 2, 2), busy(1, 0, 2, 2), one, want);
        refuses(call, busy(9, 1, 4), busy(9, 1, 4), one, want);
    }

    private static void noSquare() {
        Checks.sentence("-1 NOBODY: no such SQUARE.");
        for (int s : NO_SQUARE) {
            refuses("square(" + s + ", 0)", x -> x.square(s, 0), -1);
            refuses("turnTo(" + s + ", 0)", x -> x.turnTo(s, 0), -1);
            refuses("set(0, " + s + ")", x -> x.set(0, s), -1);
            refuses("heard(" + s + ")", x -> x.heard(s), -1);
            refuses("straight(" + s + ", 0)", x -> x.straight(s, 0), -1);
            refuses("words(" + s + ", 0)", x -> x.words(s, 0), -1);
            refuses("unheard(" + s + ", 0)", x -> x.unheard(s, 0), -1);
            refuses("talk(" + s + ", 1)", x -> x.talk(s, 1), -1);
            refuses("yards(" + s + ")", x -> x.yards(s), -1);
        }
        Checks.sentence("-1 either.");
        for (int s : NO_SQUARE) {
            for (int other : new int[] {0, 35, 8, s}) {
                refuses("steps(" + s + ", " + other + ")", x -> x.steps(s, other), -1);
                refuses("steps(" + other + ", " + s + ")", x -> x.steps(other, s), -1);
                refuses("corners(" + s + ", " + other + ", 0)", x -> x.corners(s, other, 0), -1);
                refuses("corners(" + other + ", " + s + ", 2)", x -> x.corners(other, s, 2), -1);
                refuses("fines(" + s + ", " + other + ")", x -> x.fines(s, other), -1);
                refuses("fines(" + other + ", " + s + ")", x -> x.fines(other, s), -1);
                refuses("meet(" + s + ", " + other + ", 0)", x -> x.meet(s, other, 0), -1);
                refuses("meet(" + other + ", " + s + ", 1)", x -> x.meet(other, s, 1), -1);
                refuses("roundOff(" + s + ", " + other + ")", x -> x.roundOff(s, other), -1);
                refuses("roundOff(" + other + ", " + s + ")", x -> x.roundOff(other, s), -1);
            }
        }
    }

    private static void other() {
        Checks.sentence("-2 OTHER: what, KIND, WAY.");
        for (int off : new int[] {-1, MIN, MAX, -9, 100}) {
            otherBy(off, off, off, off, off, off);
        }
        otherBy(2, 3, 4, 5, 6, 7);
    }

    /** One above the greatest what (or WAY, KIND) of the methods that have 2, 3, 4, 5, 6 or 7 of them. */
    private static void otherBy(int two, int three, int four, int five, int six, int seven) {
        refuses("square(0, " + five + ")", x -> x.square(0, five), -2);
        refuses("turnTo(35, " + six + ")", x -> x.turnTo(35, six), -2);
        refuses("set(" + three + ", 1)", x -> x.set(three, 1), -2);
        refuses("walk(" + seven + ")", x -> x.walk(seven), -2);
        refuses("corners(0, 35, " + three + ")", x -> x.corners(0, 35, three), -2);
        refuses("straight(0, " + four + ")", x -> x.straight(0, four), -2);
        refuses("longest(" + two + ")", x -> x.longest(two), -2);
        refuses("meet(0, 35, " + two + ")", x -> x.meet(0, 35, two), -2);
        refuses("newNiche(" + two + ")", x -> x.newNiche(two), -2);
        refuses("said(" + two + ")", x -> x.said(two), -2);
        refuses("lots(1, 0, " + two + ")", x -> x.lots(1, 0, two), -2);
    }

    private static void stateOfTown() {
        Checks.sentence("-3 STATE: it is not as it must be. .. -3 one could not be on HOME. .. -3 one can not be there.");
        refuses("turnTo(0, 1)", fresh(3), fresh(3), x -> x.turnTo(0, 1), -3);
        refuses("turnTo(0, 4)", fresh(3), fresh(3), x -> x.turnTo(0, 4), -3);
        refuses("turnTo(8, 1)", busy(3), busy(3), x -> x.turnTo(8, 1), -3);
        refuses("turnTo(8, 4)", busy(3), busy(3), x -> x.turnTo(8, 4), -3);
        refuses("set(0, 22), a WALL", busy(3), busy(3), x -> x.set(0, 22), -3);
        refuses("set(0, 20), a TURRET", busy(3), busy(3), x -> x.set(0, 20), -3);
        refuses("set(0, 1), a TURRET", busy(), busy(), x -> x.set(0, 1), -3);
        Checks.sentence("-3 more than 8 with INFORMERS.");
        String[] nine = {"vn0008;", "vt1927;", "vn0003;vt0509;", "vn0035;"};
        for (String text : nine) {
            refuses("enough() of " + text, Checks.made("h04;" + text), Checks.made("h04;" + text), LawOfCorners::enough, -3);
        }
        Checks.sentence("ON from it: HOME. -3 there is none.");
        refuses("on()", fresh(), fresh(), LawOfCorners::on, -3);
        refuses("on()", fresh(1, 2), fresh(1, 2), LawOfCorners::on, -3);
        refuses("on()", Checks.made("h07;f3;"), Checks.made("h07;f3;"), LawOfCorners::on, -3);
    }

    private static void stateOfRow() {
        Checks.sentence("-3 one of it is no WAY (it stays).");
        int[][] noWays = {{4}, {9}, {5}, {3, 4}, {4, 3}, {2, 2, 2, 2, 2, 2, 2, 2, 2, 2, 2, 2, 2, 2, 2, 2, 2, 2, 2, 4},
            {6, 2, 2, 2, 2, 2, 2, 2, 2, 2, 2, 2, 2, 2, 2, 2, 2, 2, 2, 2}, {0, 9}};
        for (int[] row : noWays) {
            refuses("judge()", fresh(row), fresh(row), LawOfCorners::judge, -3);
            refuses("judge()", busy(row), busy(row), LawOfCorners::judge, -3);
            for (int what = 0; what <= 6; what++) {
                int asked = what;
                refuses("walk(" + what + ")", fresh(row), fresh(row), x -> x.walk(asked), -3);
                refuses("walk(" + what + ")", busy(row), busy(row), x -> x.walk(asked), -3);
            }
        }
        Checks.sentence("SAID by the ROW (it stays) .. -3 the ROW has none.");
        for (int what = 0; what <= 1; what++) {
            int asked = what;
            refuses("said(" + what + ")", fresh(), fresh(), x -> x.said(asked), -3);
            refuses("said(" + what + ")", busy(), busy(), x -> x.said(asked), -3);
        }
    }

    private static void below() {
        Checks.sentence("-4 BELOW: a number below the least.");
        for (int n : new int[] {-1, -2, -9, MIN, MIN + 1}) {
            refuses("letter(" + n + ")", x -> x.letter(n), -4);
            refuses("set(1, " + n + ")", x -> x.set(1, n), -4);
            refuses("set(2, " + n + ")", x -> x.set(2, n), -4);
            refuses("words(0, " + n + ")", x -> x.words(0, n), -4);
            refuses("unheard(35, " + n + ")", x -> x.unheard(35, n), -4);
            refuses("talk(0, " + n + ")", x -> x.talk(0, n), -4);
            refuses("row(" + n + ")", x -> x.row(n), -4);
            refuses("lots(" + n + ", 0, 0)", x -> x.lots(n, 0, 0), -4);
        }
        refuses("set(2, 0)", x -> x.set(2, 0), -4);
        refuses("talk(35, 0)", x -> x.talk(35, 0), -4);
        refuses("lots(0, 1, 1)", x -> x.lots(0, 1, 1), -4);
    }

    private static void above() {
        Checks.sentence("-6 ROOM: a number above the greatest");
        for (int more : new int[] {0, 1, 1000, MAX - 256}) {
            refuses("letter(256) and more", x -> x.letter(256 + more), -6);
            refuses("set(1, 10) and more", x -> x.set(1, 10 + more), -6);
            refuses("set(2, 10) and more", x -> x.set(2, 10 + more), -6);
            refuses("words(0, 21) and more", x -> x.words(0, 21 + more), -6);
            refuses("unheard(0, 21) and more", x -> x.unheard(0, 21 + more), -6);
            refuses("talk(0, 41) and more", x -> x.talk(0, 41 + more), -6);
            refuses("row(10) and more", x -> x.row(10 + more), -6);
            refuses("lots(21, 0, 0) and more", x -> x.lots(21 + more, 0, 0), -6);
        }
        Checks.sentence("-6 ROOM: .. no room.");
        int[] full = Checks.times(20, 2);
        for (int v : new int[] {0, 3, 9, 10}) {
            refuses("row(" + v + ") to 20", fresh(full), fresh(full), x -> x.row(v), -6);
            refuses("row(" + v + ") to 20", busy(full), busy(full), x -> x.row(v), -6);
        }
        for (int c : new int[] {0, ';', 255, 256}) {
            refuses("letter(" + c + ") to 96", fullOfLetters(), fullOfLetters(), x -> x.letter(c), -6);
        }
    }

    private static LawOfCorners fullOfLetters() {
        LawOfCorners x = new LawOfCorners();
        for (int i = 0; i < 96; i++) {
            x.letter("f7;".charAt(i % 3));
        }
        return x;
    }

    private static void firstThatFits() {
        Checks.sentence("REFUSALS (the call answers the number, the first that fits in the order in which it tells them; nothing changes but how many there were):");
        refuses("square(36, 5)", x -> x.square(36, 5), -1);
        refuses("square(-1, -1)", x -> x.square(-1, -1), -1);
        refuses("turnTo(36, 6)", x -> x.turnTo(36, 6), -1);
        refuses("turnTo(0, 6), on HOME", fresh(), fresh(), x -> x.turnTo(0, 6), -2);
        refuses("set(3, -1)", x -> x.set(3, -1), -2);
        refuses("set(3, 36)", x -> x.set(3, 36), -2);
        refuses("set(-1, 99)", x -> x.set(-1, 99), -2);
        refuses("corners(36, 0, 3)", x -> x.corners(36, 0, 3), -1);
        refuses("corners(0, -1, -1)", x -> x.corners(0, -1, -1), -1);
        refuses("straight(36, 4)", x -> x.straight(36, 4), -1);
        refuses("straight(-1, -1)", x -> x.straight(-1, -1), -1);
        refuses("words(36, -1)", x -> x.words(36, -1), -1);
        refuses("words(-1, 21)", x -> x.words(-1, 21), -1);
        refuses("unheard(36, -1)", x -> x.unheard(36, -1), -1);
        refuses("unheard(-1, 21)", x -> x.unheard(-1, 21), -1);
        refuses("talk(36, 0)", x -> x.talk(36, 0), -1);
        refuses("talk(-1, 41)", x -> x.talk(-1, 41), -1);
        refuses("meet(36, 0, 2)", x -> x.meet(36, 0, 2), -1);
        refuses("meet(0, 36, -1)", x -> x.meet(0, 36, -1), -1);
        refuses("lots(0, 0, 2)", x -> x.lots(0, 0, 2), -4);
        refuses("lots(21, 0, 2)", x -> x.lots(21, 0, 2), -6);
        refuses("walk(7) of no WAYS", fresh(4), fresh(4), x -> x.walk(7), -2);
        refuses("walk(-1) of no WAYS", busy(9), busy(9), x -> x.walk(-1), -2);
        refuses("said(2) of none", fresh(), fresh(), x -> x.said(2), -2);
        refuses("said(-1) of none", busy(), busy(), x -> x.said(-1), -2);
        refuses("letter(-1) to 96", fullOfLetters(), fullOfLetters(), x -> x.letter(-1), -4);
        refuses("row(-1) to 20", fresh(Checks.times(20, 1)), fresh(Checks.times(20, 1)), x -> x.row(-1), -4);
    }

    private static void noRefusals() {
        Checks.sentence("-9 .. the FAULT (nothing is counted)");
        LawOfCorners x = Checks.made("h35;vw0034;");
        int[] answers = {x.steps(0, 35), x.steps(35, 0), x.corners(0, 35, 0), x.corners(35, 35, 2), x.fines(35, 0), x.words(0, 0),
            x.unheard(0, 20), x.talk(0, 1), x.talk(35, 2), x.meet(0, 35, 0), x.meet(35, 0, 1), x.roundOff(35, 35), x.quiet(),
            x.yards(35), x.newNiche(0), x.newNiche(1), x.walk(0), x.judge(), x.count(9), x.count(17), x.square(0, 3)};
        for (int i = 0; i < answers.length; i++) {
            due("answer " + i, answers[i], -9);
        }
        due("town() of none", x.town(), -1000);
        due("town() of HOME that becomes a WALL", Checks.tell(x, "kw35;"), -2000);
        for (int what = 11; what <= 16; what++) {
            due("count(" + what + ")", x.count(what), 0);
        }
    }

    public static void main(String[] args) {
        noSquare();
        other();
        stateOfTown();
        stateOfRow();
        below();
        above();
        firstThatFits();
        noRefusals();
        System.out.println(calls + " refused calls");
        Checks.end("RefusalTest");
    }
}
