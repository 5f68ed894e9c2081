/** One method for each promise; the answers are worked out by hand from ../shared/DOC.md. */
public final class PromiseTest {
    private static final String CORRIDOR = Checks.CORRIDOR;

    private static void due(String call, int got, int want) {
        Checks.due(call, got, want);
    }

    private static LawOfCorners made(String text) {
        return Checks.made(text);
    }

    private static int tell(LawOfCorners x, String text) {
        return Checks.tell(x, text);
    }

    private static void tellRow(LawOfCorners x, int... numbers) {
        Checks.withRow(x, numbers);
    }

    private static void newObject() {
        Checks.sentence("All STREETS, HOME 0.");
        LawOfCorners x = new LawOfCorners();
        for (int s = 0; s < 36; s++) {
            due("square(" + s + ", 0)", x.square(s, 0), 0);
        }
        int[] want = {0, 2, 5, 36, 0, 0, 0, 0, 0, -9, -9, 0, 0, 0, 0, 0, 0, -9};
        for (int what = 0; what < want.length; what++) {
            due("count(" + what + ")", x.count(what), want[what]);
        }
        due("on()", x.on(), -3);
    }

    private static void letter() {
        Checks.sentence("A letter (0 .. 255) comes: how many there are. -4; -6 (255; 96, too).");
        LawOfCorners x = new LawOfCorners();
        due("letter(-1)", x.letter(-1), -4);
        due("letter(256)", x.letter(256), -6);
        due("letter(MAX)", x.letter(Integer.MAX_VALUE), -6);
        due("letter(MIN)", x.letter(Integer.MIN_VALUE), -4);
        due("letter(0)", x.letter(0), 1);
        for (int i = 2; i <= 96; i++) {
            due("letter(255)", x.letter(255), i);
        }
        due("letter 97", x.letter(0), -6);
        due("letter 97 below", x.letter(-5), -4);
        due("count(8)", x.count(8), 96);
        due("count(16)", x.count(16), 3);
        due("count(14)", x.count(14), 3);
        due("town()", x.town(), -1000);
        due("letter again", x.letter('k'), 1);
    }

    private static void town() {
        Checks.sentence("The letters become a TOWN, and are no more (with a FAULT neither): how many STATEMENTS; the FAULT (nothing is counted).");
        String[] texts = {"", "k", "kw", "kw0", "kw00", "K", "kx00;", "kw0a;", "kw00:", "vw0000", "vw00001;", "h1;",
            "h001;", "f;", "f12;", "b;", "b1", "f1;;", "f1; f2;", "kw99;b", "ks36;", "vs0036;", "vs0504;", "h36;",
            "b0;", "kw00;", "vw0035;", "f3;kt00;", "kw01;h01;", "h01;kw00;kw01;", "h07;vt0007;", "f1;b0;b0;"};
        int[] want = {-1000, -1001, -1002, -1003, -1004, -1000, -1001, -1003, -1004, -1006, -1006, -1002,
            -1003, -1001, -1002, -1001, -1002, -1003, -1003, -1006, -2000, -2000, -2000, -2000,
            -2000, -2000, -2000, -2003, -2005, -2009, -2004, -2003};
        for (int i = 0; i < texts.length; i++) {
            LawOfCorners x = new LawOfCorners();
            due("town() of '" + texts[i] + "'", tell(x, texts[i]), want[i]);
            due("letters behind", x.count(8), 0);
            due("home behind", x.count(0), 0);
            due("fine behind", x.count(1), 2);
            due("breath behind", x.count(2), 5);
            due("squares behind", x.count(3), 36);
            for (int what = 11; what <= 16; what++) {
                due("a fault is no refusal", x.count(what), 0);
            }
        }
        LawOfCorners x = new LawOfCorners();
        due("a town", tell(x, "h35;kw00;vc0102;km03;kn04;kt05;f9;b1;ks01;"), 9);
        int[] kinds = {1, 0, 2, 5, 3, 4, 0};
        for (int s = 0; s < kinds.length; s++) {
            due("square(" + s + ", 0)", x.square(s, 0), kinds[s]);
        }
        due("home", x.count(0), 35);
        due("fine", x.count(1), 9);
        due("breath", x.count(2), 1);
        due("a town goes on from the one there is", tell(x, "vs0000;f0;"), 2);
        due("home stays", x.count(0), 35);
        due("square(5, 0) stays", x.square(5, 0), 4);
        due("fine 0", x.count(1), 0);
        due("all to one", tell(x, "vw3434;vs3535;"), 2);
        due("what was told before is forgotten", tell(x, "vw3"), -1003);
        due("what was told before is forgotten", tell(x, "vw3333"), -1006);
    }

    private static void square() {
        Checks.sentence("Of a SQUARE: 0 KIND (0 s, 1 w, 2 c, 3 n, 4 t, 5 m), 1 whether one can be there, 2 WORDS, 3 how far INFORMERS hear (-9), 4 whether a turn is a CORNER. -1; -2.");
        LawOfCorners x = made("kw01;kc02;kn03;kt04;km05;");
        int[][] want = {{0, 1, 1, -9, 1}, {1, 0, 0, -9, 1}, {2, 1, 1, -9, 0}, {3, 1, 0, 1, 1}, {4, 0, 0, 2, 1}, {5, 1, 2, -9, 0}};
        for (int s = 0; s < 6; s++) {
            for (int what = 0; what < 5; what++) {
                due("square(" + s + ", " + what + ")", x.square(s, what), want[s][what]);
            }
        }
        due("square(-1, 9)", x.square(-1, 9), -1);
        due("square(36, 0)", x.square(36, 0), -1);
        due("square(0, 5)", x.square(0, 5), -2);
        due("square(0, -1)", x.square(0, -1), -2);
        due("count(11)", x.count(11), 2);
        due("count(12)", x.count(12), 2);
    }

    private static void turnTo() {
        Checks.sentence("KIND becomes another one: what it was. -1; -2; -3 one could not be on HOME.");
        LawOfCorners x = new LawOfCorners();
        due("turnTo(0, 5)", x.turnTo(0, 5), 0);
        due("turnTo(0, 4)", x.turnTo(0, 4), -3);
        due("turnTo(0, 1)", x.turnTo(0, 1), -3);
        due("turnTo(0, 3)", x.turnTo(0, 3), 5);
        due("turnTo(35, 4)", x.turnTo(35, 4), 0);
        due("turnTo(35, 4)", x.turnTo(35, 4), 4);
        due("turnTo(36, 9)", x.turnTo(36, 9), -1);
        due("turnTo(-1, 0)", x.turnTo(-1, 0), -1);
        due("turnTo(1, 6)", x.turnTo(1, 6), -2);
        due("turnTo(1, -1)", x.turnTo(1, -1), -2);
        due("square(0, 0)", x.square(0, 0), 3);
        due("count(13)", x.count(13), 2);
    }

    private static void set() {
        Checks.sentence("HOME (what 0), FINE (1), BREATH (2) becomes v: what it was. -2; -1 no SQUARE; -4; -6 (9; 9); -3 one can not be there.");
        LawOfCorners x = made("kw01;");
        due("set(0, 35)", x.set(0, 35), 0);
        due("set(0, 1)", x.set(0, 1), -3);
        due("set(0, -1)", x.set(0, -1), -1);
        due("set(0, 36)", x.set(0, 36), -1);
        due("set(1, 9)", x.set(1, 9), 2);
        due("set(1, 0)", x.set(1, 0), 9);
        due("set(1, 10)", x.set(1, 10), -6);
        due("set(1, -1)", x.set(1, -1), -4);
        due("set(2, 1)", x.set(2, 1), 5);
        due("set(2, 9)", x.set(2, 9), 1);
        due("set(2, 10)", x.set(2, 10), -6);
        due("set(2, 0)", x.set(2, 0), -4);
        due("set(3, -1)", x.set(3, -1), -2);
        due("set(-1, 0)", x.set(-1, 0), -2);
        due("home", x.count(0), 35);
        due("fine", x.count(1), 0);
        due("breath", x.count(2), 9);
        int[] refusals = {2, 2, 1, 2, 0, 2};
        for (int i = 0; i < 6; i++) {
            due("count(" + (11 + i) + ")", x.count(11 + i), refusals[i]);
        }
    }

    private static void heard() {
        Checks.sentence("HEARD by. -1.");
        LawOfCorners x = made("kt14;kn15;");
        int[] squares = {14, 15, 2, 3, 16, 17, 0, 21, 28, 26, 7, 9};
        int[] want = {2, 2, 1, 0, 2, 0, 0, 2, 0, 1, 1, 2};
        for (int i = 0; i < squares.length; i++) {
            due("heard(" + squares[i] + ")", x.heard(squares[i]), want[i]);
        }
        due("heard(36)", x.heard(36), -1);
        due("heard(-1)", x.heard(-1), -1);
    }

    private static void walks(LawOfCorners x, int[] row, int... want) {
        tellRow(x, row);
        for (int what = 0; what < 7; what++) {
            due("walk(" + what + ")", x.walk(what), want[what]);
        }
        due("the row stays", x.count(7), row.length);
    }

    private static void walk() {
        Checks.sentence("A WALK by the ROW: the first that can not be (what 0; -9), the SQUARE at the end (1), words (2), CORNERS (3), CUTS (4), FINES (5), the longest run (6) (the ROW stays). -2; -3 one of it is no WAY.");
        LawOfCorners x = made(CORRIDOR + "kt08;");
        walks(x, new int[] {}, -9, 0, 1, 0, 0, 0, 1);
        walks(x, new int[] {2, 2, 2, 2, 2}, -9, 5, 6, 0, 1, 6, 6);
        walks(x, new int[] {2, 2, 1}, -9, 1, 3, 1, 1, 4, 2);
        walks(x, new int[] {2, 2, 3, 2}, 2, 2, 3, 0, 0, 4, 3);
        walks(x, new int[] {1, 2}, 0, 0, 1, 0, 0, 0, 1);
        x.set(2, 1);
        walks(x, new int[] {2, 2, 2, 2, 2}, -9, 5, 6, 0, 5, 6, 6);
        x.set(2, 3);
        walks(x, new int[] {2, 2, 2, 2, 2}, -9, 5, 6, 0, 1, 6, 6);
        x.set(1, 0);
        walks(x, new int[] {2, 1, 2}, -9, 1, 2, 2, 2, 0, 1);
        x = made(CORRIDOR + "km01;kn02;kt07;f1;");
        walks(x, new int[] {2, 2, 1, 1}, -9, 0, 6, 1, 1, 10, 3);
        walks(x, new int[] {2, 1, 2}, -9, 1, 5, 1, 1, 9, 3);
        tellRow(x, 2, 4);
        due("walk of no ways", x.walk(0), -3);
        due("walk(7)", x.walk(7), -2);
        due("walk(-1)", x.walk(-1), -2);
        tellRow(x, 0, 9);
        due("no way behind a stop", x.walk(3), -3);
    }

    private static void steps() {
        Checks.sentence("STEPS; -9. -1 either.");
        LawOfCorners x = made(CORRIDOR + "ks07;ks09;ks13;ks15;ks14;kw02;");
        due("steps(0, 0)", x.steps(0, 0), 0);
        due("steps(0, 5)", x.steps(0, 5), 9);
        due("steps(5, 0)", x.steps(5, 0), 9);
        due("steps(0, 2)", x.steps(0, 2), -9);
        due("steps(2, 2)", x.steps(2, 2), -9);
        due("steps(2, 0)", x.steps(2, 0), -9);
        due("steps(-1, 0)", x.steps(-1, 0), -1);
        due("steps(0, 36)", x.steps(0, 36), -1);
    }

    private static void ofCorners(LawOfCorners x, int from, int to, int... want) {
        for (int what = 0; what < 3; what++) {
            due("corners(" + from + ", " + to + ", " + what + ")", x.corners(from, to, what), want[what]);
        }
    }

    private static void corners() {
        Checks.sentence("Fewest CORNERS (what 0), STEPS by these (1), the first WAY (2; -9 none); -9. -1 either; -2.");
        // A short way round the wall on 8 by 1, 2, 3; a long one by 13, 19, 20, 21, 15.
        LawOfCorners x = made("h07;vw0006;vw0835;vs0103;ks09;ks13;vs1921;ks15;");
        due("steps(7, 9)", x.steps(7, 9), 4);
        ofCorners(x, 7, 9, 2, 4, 0);
        due("turnTo(19, 2)", x.turnTo(19, 2), 0);
        ofCorners(x, 7, 9, 1, 6, 3);
        ofCorners(x, 9, 7, 1, 6, 3);
        due("turnTo(1, 5)", x.turnTo(1, 5), 0);
        ofCorners(x, 7, 9, 1, 4, 0);
        ofCorners(x, 7, 7, 0, 0, -9);
        ofCorners(x, 7, 35, -9, -9, -9);
        ofCorners(x, 8, 8, -9, -9, -9);
        ofCorners(new LawOfCorners(), 0, 7, 1, 2, 2);
        ofCorners(new LawOfCorners(), 35, 28, 1, 2, 0);
        due("corners(36, 0, 0)", x.corners(36, 0, 0), -1);
        due("corners(0, -1, 9)", x.corners(0, -1, 9), -1);
        due("corners(0, 0, 3)", x.corners(0, 0, 3), -2);
        due("corners(0, 0, -1)", x.corners(0, 0, -1), -2);
    }

    private static void fines() {
        Checks.sentence("Fewest FINES; -9. -1 either.");
        LawOfCorners x = made(CORRIDOR + "kt08;ks06;");
        due("fines(0, 5)", x.fines(0, 5), 6);
        due("fines(0, 0)", x.fines(0, 0), 0);
        due("fines(1, 1)", x.fines(1, 1), 2);
        due("fines(1, 3)", x.fines(1, 3), 6);
        // 6 is heard, 0 is not: but 0 is a corner there.
        due("fines(6, 1)", x.fines(6, 1), 4);
        due("fines(0, 7)", x.fines(0, 7), -9);
        due("fines(7, 7)", x.fines(7, 7), -9);
        x.set(1, 9);
        due("fines(0, 5) by 9", x.fines(0, 5), 27);
        x.turnTo(2, 5);
        due("fines with a market", x.fines(0, 5), 36);
        x.turnTo(2, 3);
        due("fines with a niche", x.fines(0, 5), 36);
        x = made("h35;kt00;");
        due("fines(36, 0)", x.fines(36, 0), -1);
        due("fines(0, -1)", x.fines(0, -1), -1);
    }

    private static void straight() {
        Checks.sentence("STRAIGHT: how many SQUARES. -1; -2.");
        LawOfCorners x = made("kw03;kn19;");
        due("straight(0, 2)", x.straight(0, 2), 2);
        due("straight(0, 3)", x.straight(0, 3), 5);
        due("straight(35, 1)", x.straight(35, 1), 5);
        due("straight(33, 0)", x.straight(33, 0), 4);
        due("straight(3, 3)", x.straight(3, 3), 0);
        due("straight(0, 0)", x.straight(0, 0), 0);
        due("straight(0, 4)", x.straight(0, 4), -2);
        due("straight(0, -1)", x.straight(0, -1), -2);
        due("straight(36, -1)", x.straight(36, -1), -1);
    }

    private static void longest() {
        Checks.sentence("STRAIGHT: the longest (what 0; -9 none can be on any), from which SQUARE (1; -9). -2.");
        LawOfCorners x = made("h07;vw0005;");
        due("longest(0)", x.longest(0), 5);
        due("longest(1)", x.longest(1), 6);
        x = made("h35;vw0034;");
        due("longest(0) of one square", x.longest(0), 0);
        due("longest(1) of one square", x.longest(1), 35);
        x = made("h20;vw0019;vw2235;");
        due("longest(0) of two", x.longest(0), 1);
        due("longest(1) of two", x.longest(1), 20);
        due("longest(2)", x.longest(2), -2);
        due("longest(-1)", x.longest(-1), -2);
    }

    private static void words() {
        Checks.sentence("WORDS in n STEPS; -9 one can not be there. -1; -4; -6 20.");
        LawOfCorners x = made(CORRIDOR);
        int[] want = {1, 2, 3, 4, 5, 6, 6, 7, 8, 9, 10, 10};
        for (int n = 0; n < want.length; n++) {
            due("words(0, " + n + ")", x.words(0, n), want[n]);
        }
        x.turnTo(1, 5);
        due("words(0, 2) with a market", x.words(0, 2), 4);
        due("words(1, 1) from a market", x.words(1, 1), 3);
        due("words(1, 2): 1, 0 as a corner, 1", x.words(1, 2), 4);
        x.turnTo(0, 2);
        due("words(1, 2) by a crescent", x.words(1, 2), 5);
        due("words(6, 0)", x.words(6, 0), -9);
        due("words(36, -1)", x.words(36, -1), -1);
        due("words(0, -1)", x.words(0, -1), -4);
        due("words(0, 21)", x.words(0, 21), -6);
        due("words(0, 20)", made("vw0135;").words(0, 20), 1);
        due("words(6, 21)", x.words(6, 21), -6);
    }

    private static void unheard() {
        Checks.sentence("WORDS in n STEPS, none HEARD; -9. -1; -4; -6 20.");
        LawOfCorners x = made(CORRIDOR + "kt08;");
        int[] want = {1, 1, 2, 2, 2, 2};
        for (int n = 0; n < want.length; n++) {
            due("unheard(0, " + n + ")", x.unheard(0, n), want[n]);
        }
        due("unheard(1, 5)", x.unheard(1, 5), -9);
        due("words(1, 0) behind it", x.words(1, 0), 1);
        due("unheard(4, 1)", x.unheard(4, 1), 2);
        due("unheard(6, 5)", x.unheard(6, 5), -9);
        x = made(CORRIDOR + "kn01;kn02;kn03;");
        due("over niches", x.unheard(0, 5), -9);
        x = made(CORRIDOR + "kn01;kn02;");
        due("unheard(4, 5): 3 is heard", x.unheard(4, 5), 4);
        due("unheard(36, 0)", x.unheard(36, 0), -1);
        due("unheard(0, -1)", x.unheard(0, -1), -4);
        due("unheard(0, 21)", x.unheard(0, 21), -6);
    }

    private static void talk() {
        Checks.sentence("A TALK; -9. -1; -4 below 1; -6 40.");
        LawOfCorners x = made(CORRIDOR);
        due("talk(0, 1)", x.talk(0, 1), 0);
        due("talk(0, 6)", x.talk(0, 6), 5);
        due("talk(0, 7)", x.talk(0, 7), -9);
        due("talk(2, 4)", x.talk(2, 4), 3);
        due("talk(2, 5)", x.talk(2, 5), 7);
        due("talk(2, 6)", x.talk(2, 6), -9);
        x.turnTo(5, 5);
        due("talk(0, 6) with a market", x.talk(0, 6), 5);
        due("talk(0, 7) with a market", x.talk(0, 7), 5);
        due("talk(0, 8) back from a market", x.talk(0, 8), 6);
        due("talk(5, 1)", x.talk(5, 1), 0);
        due("talk(5, 2)", x.talk(5, 2), 0);
        x.turnTo(4, 2);
        due("talk(4, 40): market and crescent to and fro", x.talk(4, 40), 26);
        x.turnTo(5, 2);
        due("talk(5, 40): a word a step", x.talk(5, 40), 39);
        due("talk(4, 40)", x.talk(4, 40), 39);
        due("talk(3, 40)", x.talk(3, 40), 39);
        due("in 40 steps", made(CORRIDOR + "kn00;vc0102;").talk(0, 40), 40);
        due("not in 40 steps", made(CORRIDOR + "vn0001;vc0203;").talk(0, 40), -9);
        due("talk(6, 1)", x.talk(6, 1), -9);
        due("talk(36, 0)", x.talk(36, 0), -1);
        due("talk(0, 0)", x.talk(0, 0), -4);
        due("talk(0, 41)", x.talk(0, 41), -6);
    }

    private static void meet() {
        Checks.sentence("MEET: MINUTES (what 0), the SQUARE (1); -9. -1 either; -2.");
        LawOfCorners x = made(CORRIDOR + "ks35;");
        due("meet(0, 5, 0)", x.meet(0, 5, 0), 3);
        due("meet(0, 5, 1)", x.meet(0, 5, 1), 2);
        due("meet(4, 0, 0)", x.meet(4, 0, 0), 2);
        due("meet(4, 0, 1)", x.meet(4, 0, 1), 2);
        due("meet(1, 0, 1)", x.meet(1, 0, 1), 0);
        due("meet(3, 3, 0)", x.meet(3, 3, 0), 0);
        due("meet(3, 3, 1)", x.meet(3, 3, 1), 3);
        due("meet(0, 35, 0)", x.meet(0, 35, 0), -9);
        due("meet(0, 35, 1)", x.meet(0, 35, 1), -9);
        due("meet(6, 6, 1)", x.meet(6, 6, 1), -9);
        due("meet(36, 0, 9)", x.meet(36, 0, 9), -1);
        due("meet(0, -1, 0)", x.meet(0, -1, 0), -1);
        due("meet(0, 0, 2)", x.meet(0, 0, 2), -2);
        due("meet(0, 0, -1)", x.meet(0, 0, -1), -2);
    }

    private static void roundOff() {
        Checks.sentence("ROUND OFF; -9. -1 either.");
        LawOfCorners x = made(CORRIDOR + "ks11;");
        due("roundOff(0, 11)", x.roundOff(0, 11), 5);
        due("the square stays", x.square(5, 0), 0);
        due("roundOff(0, 5)", x.roundOff(0, 5), -9);
        due("roundOff(0, 0)", x.roundOff(0, 0), -9);
        due("roundOff(0, 35)", x.roundOff(0, 35), -9);
        x.turnTo(5, 3);
        due("a niche is no street", x.roundOff(0, 11), -9);
        due("of two the least", new LawOfCorners().roundOff(0, 14), 2);
        due("roundOff(36, 0)", x.roundOff(36, 0), -1);
        due("roundOff(0, -1)", x.roundOff(0, -1), -1);
    }

    private static void newNiche() {
        Checks.sentence("NEW NICHE: the SQUARE (what 0), how many more (1); -9. -2.");
        LawOfCorners x = made(CORRIDOR);
        due("newNiche(0)", x.newNiche(0), 1);
        due("newNiche(1)", x.newNiche(1), 4);
        x.turnTo(8, 4);
        due("newNiche(0) with a turret", x.newNiche(0), 5);
        due("newNiche(1) with a turret", x.newNiche(1), 3);
        x.set(0, 5);
        due("not home: newNiche(0)", x.newNiche(0), 4);
        due("not home: newNiche(1)", x.newNiche(1), 2);
        due("the square stays", x.square(4, 0), 0);
        x = made("vw0134;");
        due("newNiche(0) of two", x.newNiche(0), 35);
        due("newNiche(1) of two", x.newNiche(1), 3);
        x.turnTo(35, 1);
        due("newNiche(0) of none", x.newNiche(0), -9);
        due("newNiche(1) of none", x.newNiche(1), -9);
        String[] noneMore = {"h35;vt0134;ks00;", "h35;vw0034;ks20;kt21;", "h35;vw0034;kn20;", "h35;vt0034;vm0001;kc02;"};
        for (String one : noneMore) {
            due("newNiche(0), none more heard: " + one, made(one).newNiche(0), -9);
            due("newNiche(1), none more heard: " + one, made(one).newNiche(1), -9);
        }
        // 20 makes nothing more heard, 30 makes 24 and itself and 31 so.
        x = made("h35;vw0034;ks20;kt21;ks30;");
        due("newNiche(0), one makes more heard", x.newNiche(0), 30);
        due("newNiche(1), one makes more heard", x.newNiche(1), 3);
        // Only 0 itself is not heard yet.
        x = made("h35;vw0034;ks00;kn07;");
        due("newNiche(0), one more", x.newNiche(0), 0);
        due("newNiche(1), one more", x.newNiche(1), 1);
        due("newNiche(2)", x.newNiche(2), -2);
        due("newNiche(-1)", x.newNiche(-1), -2);
    }

    private static void enough() {
        Checks.sentence("ENOUGH (bits). -3 more than 8 with INFORMERS.");
        due("enough() of none", new LawOfCorners().enough(), 0);
        due("a niche under a turret", made("kn02;kt08;").enough(), 2);
        due("both", made("kn01;kt35;").enough(), 3);
        due("of several the least bits", made("h35;kt07;kt01;kn07;").enough(), 1);
        due("of two threes the less", made("h35;kn00;kn01;kn02;kn07;").enough(), 13);
        LawOfCorners x = made("vn0007;");
        due("eight", x.enough() > 0 ? 1 : 0, 1);
        x.turnTo(35, 4);
        due("nine", x.enough(), -3);
        due("count(13)", x.count(13), 1);
    }

    private static void quiet() {
        Checks.sentence("QUIET; -9.");
        due("quiet() of none heard", new LawOfCorners().quiet(), -9);
        LawOfCorners x = made(CORRIDOR + "kt08;");
        due("quiet()", x.quiet(), 5);
        x.turnTo(4, 1);
        due("quiet() with a wall", x.quiet(), 0);
        x = made("vn0035;");
        due("quiet() of all heard", x.quiet(), 0);
        x = made("vw0134;kt33;");
        due("quiet() left out", x.quiet(), 35);
        x = made("vw0635;kt35;");
        due("quiet(): none heard can be come from", x.quiet(), -9);
    }

    private static void yards() {
        Checks.sentence("YARDS; -9. -1.");
        LawOfCorners x = made(CORRIDOR);
        due("yards(0) in a corridor", x.yards(0), -9);
        x.turnTo(6, 0);
        due("yards(5)", x.yards(5), 5);
        due("yards(0)", x.yards(0), 0);
        due("yards(6)", x.yards(6), 1);
        x.turnTo(0, 2);
        due("yards(5) with a crescent", x.yards(5), -9);
        x.turnTo(0, 3);
        due("yards(5) with a niche", x.yards(5), 5);
        due("yards(7)", x.yards(7), -9);
        due("yards(36)", x.yards(36), -1);
        due("yards(-1)", x.yards(-1), -1);
    }

    private static void says(LawOfCorners x, int many, int least, int... row) {
        tellRow(x, row);
        due("said(0)", x.said(0), many);
        due("said(1)", x.said(1), least);
        due("the row stays", x.count(7), row.length);
    }

    private static void said() {
        Checks.sentence("SAID by the ROW (it stays): how many (what 0), the least (1; -9). -2; -3 the ROW has none.");
        LawOfCorners x = made(CORRIDOR);
        says(x, 6, 0, 1, 1, 1);
        says(x, 6, 0, 1, 0, 1);
        says(x, 2, 0, 1, 1, 1, 1, 1, 1);
        says(x, 0, -9, 2);
        says(x, 0, -9, 0);
        says(x, 0, -9, 1, 0);
        says(x, 6, 0, 1, 0, 0, 0, 1);
        x.turnTo(2, 5);
        says(x, 1, 2, 2);
        says(x, 2, 1, 1, 2);
        says(x, 2, 1, 1, 2, 1);
        says(x, 1, 2, 2, 1, 1, 1);
        x.turnTo(0, 3);
        says(x, 1, 0, 0);
        says(x, 1, 0, 0, 1, 2);
        due("said(2)", x.said(2), -2);
        due("said(-1)", x.said(-1), -2);
        x.clear();
        due("said(2) of none", x.said(2), -2);
        due("said(0) of none", x.said(0), -3);
    }

    private static void row() {
        Checks.sentence("A number more of the ROW (0 .. 9): how many. -4; -6 (9; 20, too).");
        LawOfCorners x = new LawOfCorners();
        due("row(-1)", x.row(-1), -4);
        due("row(10)", x.row(10), -6);
        for (int i = 1; i <= 20; i++) {
            due("row", x.row(i % 10), i);
        }
        due("row 21", x.row(0), -6);
        due("row 21 below", x.row(-1), -4);
        due("count(7)", x.count(7), 20);
        due("count(16)", x.count(16), 2);
    }

    private static void judge() {
        Checks.sentence("JUDGED; -9 (whichever it answers, the ROW has none then). -3 one of it is no WAY (it stays).");
        LawOfCorners x = made(CORRIDOR);
        due("judge() of none", x.judge(), -9);
        tellRow(x, 2, 2, 0, 3);
        due("judge()", x.judge(), 2);
        due("the row is empty", x.count(7), 0);
        tellRow(x, 2, 1, 2);
        due("judge() of all", x.judge(), -9);
        due("the row is empty", x.count(7), 0);
        tellRow(x, 0, 4);
        due("judge() of no way", x.judge(), -3);
        due("the row stays", x.count(7), 2);
    }

    private static void clear() {
        Checks.sentence("The ROW has none then: how many it had.");
        LawOfCorners x = new LawOfCorners();
        due("clear() of none", x.clear(), 0);
        tellRow(x, 1, 2, 3);
        due("clear()", x.clear(), 3);
        due("count(7)", x.count(7), 0);
        due("row(9)", x.row(9), 1);
    }

    private static void lots() {
        Checks.sentence("LOTS: words (what 0), CORNERS (1). -4; -6 20; -2.");
        // One square alone: no draw can be gone, so each walk says the one word of home.
        LawOfCorners x = made("vw0135;");
        due("lots(7, 99, 0)", x.lots(7, 99, 0), 7);
        due("lots(7, 99, 1)", x.lots(7, 99, 1), 0);
        x = made("vw0135;km00;");
        due("lots(20, 0, 0)", x.lots(20, 0, 0), 40);
        due("lots(0, 0, 9)", x.lots(0, 0, 9), -4);
        due("lots(21, 0, 9)", x.lots(21, 0, 9), -6);
        due("lots(1, 0, 2)", x.lots(1, 0, 2), -2);
        due("lots(1, 0, -1)", x.lots(1, 0, -1), -2);
        int z = -12345;
        LawOfCorners plain = made("kc08;km14;kw13;");
        int words = 0;
        int corners = 0;
        for (int i = 0; i < 3; i++) {
            int at = 0;
            int came = -1;
            for (int draw = 0; draw < 20; draw++) {
                z = (int) (z * 1664525L + 1013904223L);
                int way = (int) ((z & 0x7fffffffL) / 256 % 4);
                int row = at / 6 + (way == 0 ? -1 : way == 3 ? 1 : 0);
                int column = at % 6 + (way == 1 ? -1 : way == 2 ? 1 : 0);
                int there = row * 6 + column;
                if (row < 0 || row > 5 || column < 0 || column > 5 || there == 13) {
                    continue;
                }
                boolean corner = came >= 0 && came != way && at != 8 && at != 14;
                corners += corner ? 1 : 0;
                words += corner ? 0 : at == 14 ? 2 : 1;
                at = there;
                came = way;
            }
            words += at == 14 ? 2 : 1;
        }
        due("lots(3, -12345, 0)", plain.lots(3, -12345, 0), words);
        due("lots(3, -12345, 1)", plain.lots(3, -12345, 1), corners);
    }

    private static void image() {
        Checks.sentence("THE IMAGE is taken: HOME.");
        LawOfCorners x = made("h07;f3;b4;kt20;");
        tellRow(x, 1, 2);
        x.letter('k');
        due("image()", x.image(), 7);
        due("the row stays", x.count(7), 2);
        due("the letters stay", x.count(8), 1);
        x.set(0, 8);
        due("a new image", x.image(), 8);
        x.set(0, 9);
        due("on()", x.on(), 8);
    }

    private static void on() {
        Checks.sentence("ON from it: HOME. -3 there is none.");
        LawOfCorners x = new LawOfCorners();
        due("on() of none", x.on(), -3);
        tell(x, "h07;f3;b4;kt20;");
        x.image();
        tell(x, "h35;f9;b9;vw0034;");
        tellRow(x, 3);
        x.letter('k');
        due("on()", x.on(), 7);
        due("home", x.count(0), 7);
        due("fine", x.count(1), 3);
        due("breath", x.count(2), 4);
        due("squares", x.count(3), 35);
        due("square(20, 0)", x.square(20, 0), 4);
        due("row", x.count(7), 1);
        due("letters", x.count(8), 1);
        due("refusals", x.count(13), 1);
        x.turnTo(7, 5);
        due("on() again", x.on(), 7);
        due("square(7, 0)", x.square(7, 0), 0);
    }

    private static void count() {
        Checks.sentence("0 HOME, 1 FINE, 2 BREATH, 3 SQUARES one can be on, 4 with INFORMERS, 5 HEARD ones, 6 CRESCENTS and MARKETS, 7 in the ROW, 8 letters, 11 .. 16 REFUSALS -1 .. -6. -9 for another what.");
        due("a crescent on 0, a market on 35", made("kc00;km35;").count(6), 2);
        LawOfCorners x = made("h35;kw00;kt01;kn02;kc03;km04;kc05;f7;b8;");
        int[] want = {35, 7, 8, 34, 2, 11, 3, 0, 0, -9, -9};
        // Heard: by the turret on 1 0, 1, 2, 3, 6, 7, 8, 13; by the niche on 2 1, 2, 3, 8.
        want[5] = 8;
        for (int what = 0; what < want.length; what++) {
            due("count(" + what + ")", x.count(what), want[what]);
        }
        due("count(-1)", x.count(-1), -9);
        due("count(17)", x.count(17), -9);
        due("count(15)", x.count(15), 0);
        due("count(MIN)", x.count(Integer.MIN_VALUE), -9);
        due("count(MAX)", x.count(Integer.MAX_VALUE), -9);
        for (int what = 11; what <= 16; what++) {
            due("count is no refusal", x.count(what), 0);
        }
    }

    public static void main(String[] args) {
        Runnable[] promises = {PromiseTest::newObject, PromiseTest::letter, PromiseTest::town, PromiseTest::square,
            PromiseTest::turnTo, PromiseTest::set, PromiseTest::heard, PromiseTest::walk, PromiseTest::steps,
            PromiseTest::corners, PromiseTest::fines, PromiseTest::straight, PromiseTest::longest, PromiseTest::words,
            PromiseTest::unheard, PromiseTest::talk, PromiseTest::meet, PromiseTest::roundOff, PromiseTest::newNiche,
            PromiseTest::enough, PromiseTest::quiet, PromiseTest::yards, PromiseTest::said, PromiseTest::row,
            PromiseTest::judge, PromiseTest::clear, PromiseTest::lots, PromiseTest::image, PromiseTest::on,
            PromiseTest::count};
        for (Runnable one : promises) {
            one.run();
        }
        Checks.end("PromiseTest");
    }
}
