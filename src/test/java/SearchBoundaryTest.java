/** The boundary cases of what is searched: ways, straights, words, talks, meetings, niches, quiet and yards. */
public final class SearchBoundaryTest {
    /** One way from 0 by 5, 17, 12, 24, 29 to 35. */
    private static final String SNAKE = "vw0610;vw1923;vw3034;";
    private static final String ALONE = "vw0135;";

    private static void due(String call, int got, int want) {
        Checks.due(call, got, want);
    }

    private static LawOfCorners made(String... texts) {
        return Checks.made(texts);
    }

    private static void steps() {
        Checks.sentence("From a SQUARE to another one: STEPS; fewest CORNERS; fewest FINES .. -9 no way");
        LawOfCorners x = new LawOfCorners();
        for (int s = 0; s < 36; s++) {
            due("steps(" + s + ", " + s + ")", x.steps(s, s), 0);
            due("steps(0, " + s + ")", x.steps(0, s), s / 6 + s % 6);
            due("steps(" + s + ", 35)", x.steps(s, 35), 10 - s / 6 - s % 6);
        }
        x = made("vw0611;");
        due("cut off", x.steps(0, 12), -9);
        due("cut off", x.steps(35, 5), -9);
        due("to a WALL", x.steps(0, 6), -9);
        due("from a WALL", x.steps(6, 0), -9);
        due("from a WALL to itself", x.steps(6, 6), -9);
        due("a gap", x.turnTo(11, 3), 1);
        due("by the gap", x.steps(0, 12), 12);
        due("the gap shut by a TURRET", x.turnTo(11, 4), 3);
        due("cut off", x.steps(0, 12), -9);
        due("from a TURRET to itself", x.steps(11, 11), -9);
        x = made(SNAKE);
        due("steps(0, 35)", x.steps(0, 35), 20);
        due("steps(35, 0)", x.steps(35, 0), 20);
        x = made(ALONE);
        due("alone", x.steps(0, 0), 0);
        due("alone, to another", x.steps(0, 1), -9);
    }

    private static void ofCorners(LawOfCorners x, int from, int to, int... want) {
        for (int what = 0; what < 3; what++) {
            due("corners(" + from + ", " + to + ", " + what + ")", x.corners(from, to, what), want[what]);
        }
    }

    private static void corners() {
        Checks.sentence("Fewest CORNERS (what 0), STEPS by these (1), the first WAY (2; -9 none); -9.");
        LawOfCorners x = new LawOfCorners();
        for (int s = 0; s < 36; s++) {
            ofCorners(x, s, s, 0, 0, -9);
        }
        ofCorners(x, 14, 8, 0, 1, 0);
        ofCorners(x, 14, 13, 0, 1, 1);
        ofCorners(x, 14, 15, 0, 1, 2);
        ofCorners(x, 14, 20, 0, 1, 3);
        ofCorners(x, 0, 5, 0, 5, 2);
        ofCorners(x, 30, 0, 0, 5, 0);
        x = made("vw0611;");
        ofCorners(x, 0, 12, -9, -9, -9);
        ofCorners(x, 0, 6, -9, -9, -9);
        ofCorners(x, 6, 0, -9, -9, -9);
        ofCorners(x, 6, 6, -9, -9, -9);
        ofCorners(made(ALONE), 0, 0, 0, 0, -9);
        ofCorners(made("kt35;"), 35, 35, -9, -9, -9);
        Checks.sentence("the first WAY of the first of these (by WAYS; fewest CORNERS, then STEPS)");
        x = new LawOfCorners();
        ofCorners(x, 0, 35, 1, 10, 2);
        ofCorners(x, 35, 0, 1, 10, 0);
        ofCorners(x, 5, 30, 1, 10, 1);
        ofCorners(x, 30, 5, 1, 10, 0);
        ofCorners(x, 14, 21, 1, 2, 2);
        ofCorners(x, 15, 20, 1, 2, 1);
        due("a crescent on the other way", x.turnTo(30, 2), 0);
        ofCorners(x, 0, 35, 0, 10, 3);
        ofCorners(x, 35, 0, 0, 10, 1);
        x = made("vc0035;");
        ofCorners(x, 0, 35, 0, 10, 2);
        ofCorners(x, 21, 14, 0, 2, 0);
        ofCorners(x, 20, 15, 0, 2, 0);
        ofCorners(x, 15, 20, 0, 2, 1);
        ofCorners(made("vm0035;"), 15, 20, 0, 2, 1);
        Checks.sentence("by fewest CORNERS the fewest STEPS");
        ofCorners(made(SNAKE), 0, 35, 5, 20, 2);
        ofCorners(made(SNAKE), 35, 0, 5, 20, 0);
        ofCorners(made(SNAKE + "kc05;kc17;kc12;kc24;kc29;"), 0, 35, 0, 20, 2);
        ofCorners(made(SNAKE + "kn05;km17;"), 0, 35, 4, 20, 2);
        // From 0 to 14: by 12 there is a corner, in 4 steps; round by the crescents on 5 and 17 there is none, in 10.
        x = made("vw0710;vw1835;kc05;kc17;");
        ofCorners(x, 0, 14, 0, 10, 2);
        ofCorners(x, 14, 0, 0, 10, 2);
        due("a corner there, too", x.turnTo(5, 0), 2);
        ofCorners(x, 0, 14, 1, 4, 3);
        ofCorners(x, 14, 0, 1, 4, 1);
    }

    private static void fines() {
        Checks.sentence("fewest FINES (of all SQUARES on it, first and last; a CORNER none): -9 no way");
        LawOfCorners x = made("h06;vw0305;kt03;kw07;vw0911;vw1535;");
        due("round below: only the last is heard", x.fines(6, 8), 2);
        due("round below: only the first is heard", x.fines(8, 6), 2);
        due("the way below shut", x.turnTo(13, 1), 0);
        due("round above: 1 and the last are heard", x.fines(6, 8), 4);
        due("round above", x.fines(8, 6), 4);
        due("first and last: 1, 2", x.fines(1, 2), 4);
        due("both shut", x.turnTo(0, 1), 0);
        due("no way", x.fines(6, 8), -9);
        due("to a WALL", x.fines(6, 0), -9);
        due("from a WALL", x.fines(0, 6), -9);
        due("from a WALL to itself", x.fines(0, 0), -9);
        due("from a TURRET to itself", x.fines(3, 3), -9);
        due("alone, not heard", x.fines(6, 6), 0);
        due("alone, heard", x.fines(8, 8), 2);
        due("alone, heard, a MARKET", x.turnTo(8, 5) + x.fines(8, 8), 4);
        due("alone, heard, a NICHE", x.turnTo(8, 3) + x.fines(8, 8), 5);
        due("FINE 0", x.set(1, 0), 2);
        due("by 0", x.fines(1, 2), 0);
        due("no way by 0", x.fines(6, 8), -9);
        due("FINE 9", x.set(1, 9), 0);
        // 1 is heard by the turret, 2 by the niche on 8, too.
        due("by 9", x.fines(1, 2), 27);
        Checks.sentence("(of all SQUARES on it, first and last; a CORNER none)");
        String side = "vw0335;kt13;";
        due("1 said on the way", made(side).fines(0, 2), 2);
        due("1 a corner twice, 7 a corner", made(side + "ks07;").fines(0, 2), 0);
        due("7 a crescent", made(side + "kc07;").fines(0, 2), 2);
        due("7 a market", made(side + "km07;").fines(0, 2), 2);
        due("7 a niche", made(side + "kn07;").fines(0, 2), 0);
        due("1 a crescent", made(side + "kc01;ks07;").fines(0, 2), 2);
        due("1 a niche", made(side + "kn01;").fines(0, 2), 4);
    }

    private static void straight() {
        Checks.sentence("STRAIGHT: of a SQUARE, how many SQUARES one can go by a WAY without a turn (0, if one can't be on it)");
        LawOfCorners x = made("h02;kw14;kt21;kn22;km15;kc09;");
        int[][] want = {{14, 0, 0, 0, 0}, {21, 0, 0, 0, 0}, {20, 0, 2, 0, 2}, {15, 2, 0, 2, 0}, {22, 3, 0, 1, 2}, {8, 1, 2, 3, 0},
            {13, 2, 1, 0, 3}, {9, 1, 3, 2, 1}, {27, 0, 3, 2, 1}};
        for (int[] row : want) {
            for (int way = 0; way < 4; way++) {
                due("straight(" + row[0] + ", " + way + ")", x.straight(row[0], way), row[way + 1]);
            }
        }
        due("straight(0, -1)", x.straight(0, -1), -2);
        due("straight(0, 4)", x.straight(0, 4), -2);
        Checks.sentence("the longest of all, from which SQUARE, of several the least (then by WAY)");
        dueLongest("", 5, 0);
        dueLongest("h01;kw00;", 5, 1);
        dueLongest("h03;vw0002;vw0408;vw1014;vw1620;vw2226;vw2832;vw3435;", 5, 3);
        dueLongest(Checks.CORRIDOR + "h01;kw00;", 4, 1);
        dueLongest(Checks.CORRIDOR + "h01;kw03;", 2, 0);
        dueLongest(Checks.CORRIDOR + "h04;kw02;", 2, 3);
        dueLongest("h29;vw0028;vw3034;", 1, 29);
        dueLongest(SNAKE, 5, 0);
        dueLongest("vc0035;", 5, 0);
        Checks.sentence("STRAIGHT: the longest (what 0; -9 none can be on any), from which SQUARE (1; -9)");
        dueLongest(ALONE, 0, 0);
        dueLongest("h35;vw0034;", 0, 35);
        dueLongest("h14;vt0013;vt1535;", 0, 14);
    }

    private static void dueLongest(String text, int want, int from) {
        LawOfCorners x = text.isEmpty() ? new LawOfCorners() : made(text);
        due("longest(0) of " + text, x.longest(0), want);
        due("longest(1) of " + text, x.longest(1), from);
    }

    private static void words() {
        Checks.sentence("WORDS in n STEPS (0 .. 20) or fewer from a SQUARE: the most that can be said (any WAYS, back too)");
        int[] canBe = {0, 2, 3, 5};
        int[] said = {1, 1, 0, 2};
        for (int i = 0; i < 4; i++) {
            LawOfCorners x = made("h35;vw0034;");
            x.turnTo(35, canBe[i]);
            for (int n : new int[] {0, 1, 20}) {
                due("alone on kind " + canBe[i] + ": words(35, " + n + ")", x.words(35, n), said[i]);
            }
        }
        LawOfCorners x = made("vc0035;");
        LawOfCorners market = made("vm0035;");
        LawOfCorners niche = made("vn0035;");
        LawOfCorners street = made("vw0235;");
        LawOfCorners pair = made("vw0235;kn01;");
        for (int n = 0; n <= 20; n++) {
            due("crescents: words(0, " + n + ")", x.words(0, n), n + 1);
            due("markets: words(14, " + n + ")", market.words(14, n), 2 * n + 2);
            due("niches: words(14, " + n + ")", niche.words(14, n), 0);
            due("two streets: words(0, " + n + ")", street.words(0, n), n == 0 ? 1 : 2);
            // 3 steps end on the niche with one word: it is 2 in fewer.
            due("street and niche: words(0, " + n + ")", pair.words(0, n), n < 2 ? 1 : 2);
            due("niche and street: words(1, " + n + ")", pair.words(1, n), n < 1 ? 0 : 1);
        }
        due("two crescents, back and back", made("vw0235;vc0001;").words(0, 20), 21);
        int[] corridor = {1, 2, 3, 4, 5, 6, 6, 7, 8, 9, 10, 10, 11, 12, 13, 14, 14, 15, 16, 17, 18};
        x = made(Checks.CORRIDOR);
        for (int n = 0; n <= 20; n++) {
            due("corridor: words(0, " + n + ")", x.words(0, n), corridor[n]);
        }
        due("-9 one can not be there: a WALL", x.words(6, 0), -9);
        due("-9 one can not be there: a WALL", x.words(6, 20), -9);
        due("-9 one can not be there: a TURRET", made("kt35;").words(35, 20), -9);
        due("words(0, -1)", x.words(0, -1), -4);
        due("words(0, 21)", x.words(0, 21), -6);
    }

    private static void unheard() {
        Checks.sentence("with no word said where somebody hears: likewise (such a SQUARE may be on it, where no word is said: as a CORNER, or with WORDS 0");
        LawOfCorners x = made(Checks.CORRIDOR + "kn05;");
        int[] want = {1, 2, 3, 4, 4, 5, 6, 7, 8};
        for (int n = 0; n < want.length; n++) {
            due("heard are 4 and 5: unheard(0, " + n + ")", x.unheard(0, n), want[n]);
        }
        // Heard is 1 alone: as a corner it may be on it, not as the last.
        x = made("vw0235;kt13;");
        for (int n = 0; n <= 20; n++) {
            due("heard is 1: unheard(0, " + n + ")", x.unheard(0, n), n < 2 ? 1 : 2);
        }
        due("1 a CRESCENT is no corner", x.turnTo(1, 2) + x.unheard(0, 20), 1);
        due("heard ones straight on", made(Checks.CORRIDOR + "kn02;kn03;").unheard(0, 20), 2);
        // From 7 up to 1, a corner, over the niche on 2 to 3, a corner, down to 9 and 15.
        x = made("h07;kw00;vw0406;kw08;vw1014;vw1635;kn02;");
        int[] overNiche = {1, 1, 2, 2, 2, 3, 3};
        for (int n = 0; n < overNiche.length; n++) {
            due("over a NICHE: unheard(7, " + n + ")", x.unheard(7, n), overNiche[n]);
        }
        due("as far as the heard ones", x.heard(1) + x.heard(2) + x.heard(3), 3);
        due("not heard", x.heard(7) + x.heard(9) + x.heard(15), 0);
        due("not over a heard CRESCENT", made(Checks.CORRIDOR + "kt14;kc02;").unheard(0, 20), 2);
        Checks.sentence("-9: the first is heard");
        x = made(Checks.CORRIDOR + "kt14;");
        for (int n : new int[] {0, 1, 20}) {
            due("a STREET: unheard(2, " + n + ")", x.unheard(2, n), -9);
        }
        x.turnTo(2, 5);
        due("a MARKET", x.unheard(2, 3), -9);
        x.turnTo(2, 2);
        due("a CRESCENT", x.unheard(2, 3), -9);
        due("the one beside it is not heard", x.unheard(1, 0), 1);
        Checks.sentence("WORDS in n STEPS, none HEARD; -9.");
        x = new LawOfCorners();
        for (int n = 0; n <= 20; n++) {
            due("none hears: unheard(14, " + n + ")", x.unheard(14, n), x.words(14, n));
        }
        due("one can not be there: a WALL", made(Checks.CORRIDOR).unheard(6, 20), -9);
        due("one can not be there: a TURRET", made("kt35;").unheard(35, 20), -9);
        due("unheard(0, -1)", x.unheard(0, -1), -4);
        due("unheard(0, 21)", x.unheard(0, 21), -6);
    }

    private static void talk() {
        Checks.sentence("A TALK of t words (1 .. 40) uncut: the fewest STEPS from a SQUARE till t words are said with no CORNER between");
        LawOfCorners crescents = made("vc0035;");
        LawOfCorners markets = made("vm0035;");
        LawOfCorners niches = made("vn0035;");
        for (int t = 1; t <= 40; t++) {
            due("crescents: talk(14, " + t + ")", crescents.talk(14, t), t - 1);
            due("markets: talk(14, " + t + ")", markets.talk(14, t), (t - 1) / 2);
            due("niches: talk(14, " + t + ")", niches.talk(14, t), -9);
        }
        LawOfCorners x = made(ALONE);
        due("alone: talk(0, 1)", x.talk(0, 1), 0);
        due("alone: talk(0, 2)", x.talk(0, 2), -9);
        due("from a WALL", x.talk(1, 1), -9);
        due("from a TURRET", made("kt35;").talk(35, 1), -9);
        due("from a NICHE", made(Checks.CORRIDOR + "kn00;").talk(0, 1), 1);
        Checks.sentence("-9 not in 40 STEPS");
        x = made(Checks.CORRIDOR + "vn0001;vc0203;");
        due("40 words in 40", x.talk(1, 40), 40);
        due("40 words in 41", x.talk(0, 40), -9);
        due("39 words in 40", x.talk(0, 39), 40);
        Checks.sentence("they may begin behind any CORNER");
        x = made(Checks.CORRIDOR);
        int[][] want = {{0, 0, 1, 2, 3, 4, 5, -9}, {0, 0, 1, 2, 3, 4, -9, -9}, {0, 0, 1, 2, 3, 7, -9, -9}, {0, 0, 1, 2, 3, 7, -9, -9}};
        for (int s = 0; s < 4; s++) {
            for (int t = 1; t < 8; t++) {
                due("corridor: talk(" + s + ", " + t + ")", x.talk(s, t), want[s][t]);
            }
        }
        Checks.sentence("(BREATH no matter");
        for (int breath = 1; breath <= 9; breath += 8) {
            x.set(2, breath);
            due("talk(0, 6) by " + breath, x.talk(0, 6), 5);
            due("talk(2, 5) by " + breath, x.talk(2, 5), 7);
        }
        Checks.sentence("A TALK; -9. -1; -4 below 1; -6 40.");
        due("talk(0, 0)", x.talk(0, 0), -4);
        due("talk(0, 41)", x.talk(0, 41), -6);
        due("talk(-1, 1)", x.talk(-1, 1), -1);
        due("talk(36, 1)", x.talk(36, 1), -1);
    }

    private static void meets(LawOfCorners x, int one, int other, int minutes, int place) {
        due("meet(" + one + ", " + other + ", 0)", x.meet(one, other, 0), minutes);
        due("meet(" + one + ", " + other + ", 1)", x.meet(one, other, 1), place);
    }

    private static void meet() {
        Checks.sentence("MEET: two who set out from two SQUARES at once, one STEP each MINUTE (staying too): the fewest MINUTES till both are on one SQUARE; the SQUARE, of several the least; -9.");
        LawOfCorners x = new LawOfCorners();
        for (int s = 0; s < 36; s++) {
            meets(x, s, s, 0, s);
        }
        meets(x, 0, 1, 1, 0);
        meets(x, 1, 0, 1, 0);
        meets(x, 0, 6, 1, 0);
        meets(x, 0, 2, 1, 1);
        meets(x, 0, 3, 2, 1);
        meets(x, 0, 35, 5, 5);
        meets(x, 35, 0, 5, 5);
        meets(x, 29, 35, 1, 29);
        meets(x, 34, 35, 1, 34);
        meets(x, 7, 14, 1, 8);
        x = made("vw0611;");
        meets(x, 0, 12, -9, -9);
        meets(x, 12, 0, -9, -9);
        meets(x, 0, 6, -9, -9);
        meets(x, 6, 0, -9, -9);
        meets(x, 6, 6, -9, -9);
        meets(made("kt35;"), 35, 35, -9, -9);
        meets(made(SNAKE), 0, 35, 10, 14);
        meets(made(ALONE), 0, 0, 0, 0);
    }

    private static void roundOff() {
        Checks.sentence("ROUND OFF: the STREET SQUARE that, being a CRESCENT, makes fewest CORNERS from a SQUARE to another one fewer, most, of several the least; -9.");
        LawOfCorners x = new LawOfCorners();
        due("none to make fewer: to itself", x.roundOff(14, 14), -9);
        due("none to make fewer: straight", x.roundOff(12, 17), -9);
        due("of two the least: 5 or 30", x.roundOff(0, 35), 5);
        due("of two the least: 2 or 12", x.roundOff(14, 0), 2);
        x.turnTo(5, 3);
        due("5 a NICHE is no STREET", x.roundOff(0, 35), 30);
        x.turnTo(30, 3);
        due("both are NICHES", x.roundOff(0, 35), -9);
        x.turnTo(30, 2);
        due("30 is a CRESCENT: no corner is left", x.roundOff(0, 35), -9);
        x = made(SNAKE);
        due("of five the least", x.roundOff(0, 35), 5);
        due("the square is as it was", x.square(5, 0), 0);
        due("HOME is as it was", x.count(0), 0);
        due("of five the least, the other way", x.roundOff(35, 0), 5);
        x.turnTo(5, 2);
        due("the next", x.roundOff(0, 35), 12);
        x.turnTo(12, 5);
        due("the next", x.roundOff(35, 0), 17);
        x.turnTo(17, 2);
        x.turnTo(24, 2);
        due("the last", x.roundOff(0, 35), 29);
        x.turnTo(29, 2);
        due("none is left", x.roundOff(0, 35), -9);
        x = made("vw0611;");
        due("no way", x.roundOff(0, 12), -9);
        due("from a WALL", x.roundOff(6, 0), -9);
        due("to a WALL", x.roundOff(0, 6), -9);
        due("the first SQUARE: 0 or 7", new LawOfCorners().roundOff(1, 6), 0);
        due("the last SQUARE: 28 or 35", new LawOfCorners().roundOff(34, 29), 28);
        due("the last SQUARE alone", made("kw28;").roundOff(34, 29), 35);
        due("HOME itself can be the one", made("h05;").roundOff(0, 35), 5);
    }

    private static void dueNiche(LawOfCorners x, int square, int more) {
        due("newNiche(0)", x.newNiche(0), square);
        due("newNiche(1)", x.newNiche(1), more);
    }

    private static void newNiche() {
        Checks.sentence("NEW NICHE: the SQUARE (not HOME, one can be on it) that, being a NICHE, makes most SQUARES HEARD that were not, of several the least; how many more; -9.");
        dueNiche(new LawOfCorners(), 7, 5);
        dueNiche(made("h07;"), 8, 5);
        // The turret hears 1, 2, 3, 6 .. 10, 13, 14, 15, 20.
        dueNiche(made("kw07;kt08;"), 22, 5);
        dueNiche(made("vn0035;"), -9, -9);
        dueNiche(made(ALONE), -9, -9);
        dueNiche(made("h35;vw0034;"), -9, -9);
        dueNiche(made("h35;vw0034;ks00;"), 0, 3);
        dueNiche(made("h35;vw0034;kn00;"), -9, -9);
        dueNiche(made("h35;vw0034;kt00;"), -9, -9);
        dueNiche(made("h35;vt0134;ks00;"), -9, -9);
        dueNiche(made("h35;vw0034;kc00;km05;"), 0, 3);
        dueNiche(made("h35;vw0034;kc01;km05;"), 1, 4);
        // The niche on 7 hears 1 and 6: 0 would add itself, 1 would add 0 and 2, on which one can not be.
        dueNiche(made("h35;vw0034;ks00;ks01;kn07;"), 1, 2);
        dueNiche(made("h35;vw0034;ks00;kn07;"), 0, 1);
        dueNiche(made("h00;vw0235;kn07;"), 1, 2);
        LawOfCorners x = made("h35;vw0034;ks00;");
        due("newNiche(0)", x.newNiche(0), 0);
        due("the square is as it was", x.square(0, 0), 0);
        due("who hear are as they were", x.count(4), 0);
        due("newNiche(-1)", x.newNiche(-1), -2);
        due("newNiche(2)", x.newNiche(2), -2);
    }

    private static void enough() {
        Checks.sentence("ENOUGH: of all SQUARES with INFORMERS (8 at most, by numbers, as bits of these) the fewest who hear all that are heard by any, of several the least bits.");
        due("none", new LawOfCorners().enough(), 0);
        due("one, on 0", made("kn00;").enough(), 1);
        due("one, on 35", made("kt35;").enough(), 1);
        due("eight, all needed", made("kn00;kn02;kn04;kn12;kn14;kn16;kn24;kn26;").enough(), 255);
        due("four niches within a turret, the third by number", made("kn08;kn13;kt14;kn15;kn20;").enough(), 4);
        due("a niche within a turret", made("kn14;kt15;kn16;").enough(), 2);
        due("a niche within a turret", made("kt14;kn15;").enough(), 1);
        due("a niche within a turret", made("kn13;kt14;").enough(), 2);
        due("both", made("kn00;kn35;").enough(), 3);
        // 13 is heard by 7 alone, 3 by 2 alone; 0 by the niches on 0 and 1.
        due("of several the least bits", made("h35;kn00;kn01;kn02;kn07;").enough(), 13);
        Checks.sentence("-3 more than 8 with INFORMERS.");
        LawOfCorners x = made("vn0007;");
        due("eight are no more than 8", x.enough() > 0 ? 1 : 0, 1);
        due("the ninth", x.turnTo(35, 3), 0);
        due("nine", x.enough(), -3);
        due("the ninth no more", x.turnTo(35, 0), 3);
        due("eight again", x.enough() > 0 ? 1 : 0, 1);
        due("all", made("vn0035;").enough(), -3);
    }

    private static void dueQuiet(String text, int want) {
        due("quiet() of " + text, made(text).quiet(), want);
    }

    private static void quiet() {
        Checks.sentence("QUIET: the SQUARE that is farthest in STEPS from the nearest that is HEARD .. of several the least; -9 none is HEARD or can be come from.");
        due("quiet() of none HEARD", new LawOfCorners().quiet(), -9);
        dueQuiet("kn00;", 35);
        dueQuiet("kn35;", 0);
        dueQuiet("kt07;", 35);
        dueQuiet(Checks.CORRIDOR + "kn00;", 5);
        dueQuiet(Checks.CORRIDOR + "kn02;", 5);
        dueQuiet(Checks.CORRIDOR + "kn03;", 0);
        dueQuiet(Checks.CORRIDOR + "kn02;kw05;", 0);
        // The nearest counts: 2 and 3 are one step from what is heard.
        dueQuiet(Checks.CORRIDOR + "kn00;kn05;", 2);
        dueQuiet("vn0035;", 0);
        dueQuiet("h01;vn0035;kw00;", 1);
        dueQuiet("h35;vt0034;", 35);
        Checks.sentence("(one can be on both; those that can be come to from none are left out)");
        dueQuiet("h35;vw0034;kt33;ks00;", 35);
        dueQuiet("vw0134;kt33;", 35);
        dueQuiet("vw0635;kt35;", -9);
        dueQuiet("kw34;kw29;kw23;kw28;kw33;kt35;", -9);
        dueQuiet("vw0635;kt12;", 5);
        dueQuiet("vw0635;kt13;ks35;", 5);
    }

    private static void yards() {
        Checks.sentence("YARDS of a SQUARE: STEPS to the nearest SQUARE on which a turn is a CORNER and from which one can go on by two WAYS that are not opposite; -9.");
        LawOfCorners x = new LawOfCorners();
        for (int s = 0; s < 36; s++) {
            due("yards(" + s + ")", x.yards(s), 0);
        }
        x = made(Checks.CORRIDOR);
        for (int s = 0; s < 7; s++) {
            due("a corridor: yards(" + s + ")", x.yards(s), -9);
        }
        due("one square below 5", x.turnTo(11, 0), 1);
        int[] want = {5, 4, 3, 2, 1, 0};
        for (int s = 0; s < 6; s++) {
            due("an end that turns: yards(" + s + ")", x.yards(s), want[s]);
        }
        due("yards(11)", x.yards(11), 1);
        due("5 a CRESCENT", x.turnTo(5, 2) + x.yards(0), -9);
        due("5 a MARKET", x.turnTo(5, 5) + x.yards(0), -7);
        due("5 a NICHE", x.turnTo(5, 3) + x.yards(0), 10);
        due("11 a TURRET: no way", x.turnTo(11, 4) + x.yards(0), -9);
        x = made("h03;vw0002;vw0408;vw1014;vw1620;vw2226;vw2832;vw3435;");
        due("up and down alone are opposite", x.yards(3), -9);
        due("a wall's", x.yards(0), -9);
        due("one square aside", x.turnTo(20, 0), 1);
        due("yards(3)", x.yards(3), 3);
        due("yards(33)", x.yards(33), 2);
        due("yards(20): its own way is one alone", x.yards(20), 1);
        x = made("vc0035;kn35;");
        due("a NICHE far off", x.yards(0), 10);
        due("a NICHE itself", x.yards(35), 0);
        due("alone", made(ALONE).yards(0), -9);
        due("one that can not be come to", made("vw0611;vc0005;").yards(0), -9);
        due("a TURRET's", made("kt35;").yards(35), -9);
    }

    /** The same corner of the town at 0 and, turned about, at 35: on it the least and the greatest SQUARE are gone over. */
    private static void firstAndLastSquare() {
        Checks.sentence("SQUARES 0 .. 35");
        String[] towns = {"h06;vw0305;vw0735;", "h29;vw0028;vw3032;"};
        for (int turned = 0; turned < 2; turned++) {
            LawOfCorners x = made(towns[turned]);
            // One goes from 6 up to 0 and on by 1 and 2.
            int six = turned == 0 ? 6 : 29;
            int nought = turned == 0 ? 0 : 35;
            int one = turned == 0 ? 1 : 34;
            int two = turned == 0 ? 2 : 33;
            int[] words = {1, 2, 2, 3, 3};
            for (int n = 0; n < words.length; n++) {
                due("words(" + six + ", " + n + ")", x.words(six, n), words[n]);
                due("unheard(" + six + ", " + n + ")", x.unheard(six, n), words[n]);
            }
            due("talk to it", x.talk(six, 2), 1);
            due("talk that ends on it", x.talk(two, 3), 2);
            due("talk that it cuts", x.talk(one, 3), -9);
            due("talk on it alone", x.talk(nought, 1), 0);
            ofCorners(x, six, two, 1, 3, turned == 0 ? 0 : 3);
            ofCorners(x, two, six, 1, 3, turned == 0 ? 1 : 2);
            due("roundOff", x.roundOff(six, two), nought);
            due("yards", x.yards(two), 2);
            due("yards on it", x.yards(nought), 0);
            due("said {1, 1}", Checks.withRow(x, 1, 1).said(0), 4);
            due("said {1, 0, 1}", Checks.withRow(x, 1, 0, 1).said(0), 4);
            // 6, 0, 1, 2; and 1, 0, 1, 2 as well as 1, 2, 1, 0.
            due("said {1, 0, 1, 1}", Checks.withRow(x, 1, 0, 1, 1).said(0), 2);
            due("a MARKET there", x.turnTo(nought, 5), 0);
            due("said {1, 2, 1}", Checks.withRow(x, 1, 2, 1).said(0), 2);
            due("words", x.words(six, 2), 4);
            due("talk", x.talk(six, 5), 3);
            due("an informer beside 6, who hears 0", x.turnTo(turned == 0 ? 12 : 23, 4), 1);
            due("heard", x.heard(nought), 1);
            due("it is heard: unheard on it", x.unheard(nought, 5), -9);
            due("it is heard, and no corner: unheard from 1", x.unheard(one, 0), 1);
            due("it is heard, and no corner: unheard from 1", x.unheard(one, 20), 2);
            due("fines on it", x.fines(nought, nought), 4);
            due("fines to it", x.fines(two, nought), 4);
            due("fines over it", x.fines(six, two), 6);
            due("a NICHE there", x.turnTo(nought, 3), 5);
            due("said {0}", Checks.withRow(x, 0).said(1), nought);
            due("enough", x.enough(), 3);
        }
    }

    private static void eachByItself() {
        Checks.sentence("Nothing is promised beyond the answers and state changes described above");
        LawOfCorners x = made(Checks.CORRIDOR + "kt08;");
        for (int again = 0; again < 2; again++) {
            due("words(1, 5)", x.words(1, 5), 5);
            due("unheard(1, 5)", x.unheard(1, 5), -9);
            due("talk(1, 5)", x.talk(1, 5), 4);
            due("unheard(0, 5)", x.unheard(0, 5), 2);
            due("fines(0, 5)", x.fines(0, 5), 6);
            ofCorners(x, 0, 5, 0, 5, 2);
            due("roundOff(0, 5)", x.roundOff(0, 5), -9);
            due("fines(5, 0)", x.fines(5, 0), 6);
            due("newNiche(0)", x.newNiche(0), 5);
            due("enough()", x.enough(), 1);
            due("quiet()", x.quiet(), 5);
            due("steps(0, 5)", x.steps(0, 5), 5);
            due("meet(0, 5, 1)", x.meet(0, 5, 1), 2);
        }
        due("the informer goes", x.turnTo(8, 1), 4);
        due("enough() of none", x.enough(), 0);
        due("quiet() of none", x.quiet(), -9);
        due("unheard(1, 5)", x.unheard(1, 5), 5);
        due("fines(0, 5)", x.fines(0, 5), 0);
        due("newNiche(0)", x.newNiche(0), 1);
        due("enough() of none", x.enough(), 0);
        x = made("kn00;kn35;");
        for (int again = 0; again < 2; again++) {
            due("newNiche(0)", x.newNiche(0), 8);
            due("enough() of two, both needed", x.enough(), 3);
            // One turns at 5, or at 30.
            ofCorners(x, 0, 35, 1, 10, 2);
            // One turns at 1 and at 34, where it is heard.
            due("fines(0, 35)", x.fines(0, 35), 0);
            due("roundOff(0, 35)", x.roundOff(0, 35), 5);
        }
        due("the one on 0 goes", x.turnTo(0, 0), 3);
        due("enough() of one", x.enough(), 1);
    }

    public static void main(String[] args) {
        steps();
        corners();
        fines();
        straight();
        words();
        unheard();
        talk();
        meet();
        roundOff();
        newNiche();
        enough();
        quiet();
        yards();
        firstAndLastSquare();
        eachByItself();
        Checks.end("SearchBoundaryTest");
    }
}
