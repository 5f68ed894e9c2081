/** The boundary cases of the town itself: letters, kinds, home, who hears, counts, the image. */
public final class TownBoundaryTest {
    private static final String KINDS = "swcntm";
    private static final int MIN = Integer.MIN_VALUE;
    private static final int MAX = Integer.MAX_VALUE;

    private static void due(String call, int got, int want) {
        Checks.due(call, got, want);
    }

    private static int townOf(String text) {
        return Checks.tell(new LawOfCorners(), text);
    }

    private static void dueTown(String text, int want) {
        due("town() of '" + text + "'", townOf(text), want);
    }

    private static int apart(int one, int other) {
        return Math.abs(one / 6 - other / 6) + Math.abs(one % 6 - other % 6);
    }

    private static void lastCall() {
        Checks.sentence("An object is used for at most 512 calls after it has been made");
        LawOfCorners x = new LawOfCorners();
        int was = 2;
        for (int i = 1; i <= 511; i++) {
            due("call " + i + ", set(1, " + i % 10 + ")", x.set(1, i % 10), was);
            was = i % 10;
        }
        due("call 512, count(1)", x.count(1), 1);
        x = new LawOfCorners();
        for (int i = 1; i <= 511; i++) {
            due("call " + i + ", on()", x.on(), -3);
        }
        due("call 512, count(13)", x.count(13), 511);
    }

    private static void newObject() {
        Checks.sentence("All STREETS, HOME 0.");
        LawOfCorners x = new LawOfCorners();
        for (int s = 0; s < 36; s++) {
            due("square(" + s + ", 0)", x.square(s, 0), 0);
            due("heard(" + s + ")", x.heard(s), 0);
        }
        due("count(0)", x.count(0), 0);
        Checks.sentence("KINDS of SQUARES (s at first).");
        due("the STREETS on the row of 0", x.straight(0, 2), 5);
        due("turnTo(35, 0): what it was", x.turnTo(35, 0), 0);
        due("one can be on all", x.count(3), 36);
        due("none hears", x.count(4), 0);
        Checks.sentence("FINE (0 .. 9 for each word: 2 at first).");
        due("count(1)", x.count(1), 2);
        due("set(1, 2): what it was", x.set(1, 2), 2);
        Checks.sentence("BREATH (1 .. 9: 5 at first)");
        due("count(2)", x.count(2), 5);
        due("set(2, 5): what it was", x.set(2, 5), 5);
        Checks.sentence("HOME (a SQUARE one can be on: 0 at first).");
        due("set(0, 0): what it was", x.set(0, 0), 0);
        for (String text : new String[] {"h05;vw0004;", "h20;vt0019;vt2135;", "km07;h07;", "kn35;h35;"}) {
            LawOfCorners other = Checks.made(text);
            due("one can be on HOME: " + text, other.square(other.count(0), 1), 1);
            due("one can be on no WALL as HOME: " + text, other.turnTo(other.count(0), 1), -3);
            due("one can be on HOME, still: " + text, other.square(other.count(0), 1), 1);
        }
    }

    private static void behindEach() {
        Checks.sentence("STATEMENTS, each with \";\" behind:");
        dueTown("f1;b1;", 2);
        dueTown("f1b1;", -1002);
        dueTown("f1;b1", -1005);
        dueTown("f1,b1;", -1002);
        dueTown("f1; b1;", -1003);
        dueTown("f1;;b1;", -1003);
        dueTown(";f1;b1;", -1000);
        dueTown("kw01", -1004);
        dueTown("kw01kw02;", -1004);
        dueTown("vw0102", -1006);
        dueTown("vw0102kw03;", -1006);
        dueTown("h01", -1003);
        dueTown("h01h02;", -1003);
        dueTown("h01\n", -1003);
    }

    private static void waysAtTheEdge() {
        Checks.sentence("SQUARES 0 .. 35: row SQUARE by 6, column SQUARE modulo 6; WAYS 0 up, 1 left, 2 right, 3 down, to the SQUARE beside in the town");
        LawOfCorners x = new LawOfCorners();
        for (int s = 0; s < 36; s++) {
            int[] want = {s / 6, s % 6, 5 - s % 6, 5 - s / 6};
            for (int way = 0; way < 4; way++) {
                due("straight(" + s + ", " + way + ")", x.straight(s, way), want[way]);
            }
        }
        due("no way from 5 over the edge to 6", x.steps(5, 6), 6);
        due("no way from 30 over the edge to 29", x.steps(30, 29), 6);
        due("no way from 0 over the edge to 35", x.steps(0, 35), 10);
        due("no way from 0 over the edge to 30", x.steps(0, 30), 5);
        due("no way from 3 over the edge to 33", x.steps(3, 33), 5);
    }

    private static void letter() {
        Checks.sentence("A letter (0 .. 255) comes: how many there are. -4; -6 (255; 96, too).");
        LawOfCorners x = new LawOfCorners();
        due("letter(-1)", x.letter(-1), -4);
        due("letter(0)", x.letter(0), 1);
        due("letter(255)", x.letter(255), 2);
        due("letter(256)", x.letter(256), -6);
        due("count(8)", x.count(8), 2);
        for (int many = 3; many <= 96; many++) {
            due("letter " + many, x.letter(';'), many);
        }
        due("letter 97", x.letter(';'), -6);
        due("count(8)", x.count(8), 96);
        due("below comes ahead of no room", x.letter(-1), -4);
        due("above and no room", x.letter(256), -6);
        due("town() makes room", x.town(), -1000);
        due("letter 1", x.letter('f'), 1);
        Checks.sentence("A TOWN is told in letters, one by one (96 at most)");
        dueTown("f1;".repeat(32), 32);
        dueTown("vc0035;".repeat(13) + "kc35;", 14);
        dueTown("kc35;".repeat(18) + "f1;b1;", 20);
        // The letter for which there is no room is not in the text.
        dueTown("f1;".repeat(32) + "x", 32);
        dueTown("f1;".repeat(32) + "f2;", 32);
    }

    private static void atLeastOne() {
        Checks.sentence("At least one STATEMENT.");
        dueTown("", -1000);
        dueTown(";", -1000);
        dueTown("f0;", 1);
        dueTown("f0;;", -1003);
        due("town() twice", repeatedTown(), -1000);
    }

    private static int repeatedTown() {
        LawOfCorners x = Checks.made("f0;");
        return x.town();
    }

    private static void firstWrongLetter() {
        Checks.sentence("FAULT: kind 1 the place of the first letter with which no TOWN can go on .. : -1000 less the place; else");
        String[] forms = {"kw35;", "vc0035;", "h35;", "f9;", "b9;"};
        char[] fitNowhere = {0, 1, ' ', '/', ':', '<', 'K', 'z', 127, 128, 255};
        for (String ahead : new String[] {"", "f1;", "kc00;vm0102;"}) {
            for (String form : forms) {
                for (int i = 0; i < form.length(); i++) {
                    for (char c : fitNowhere) {
                        dueTown(ahead + form.substring(0, i) + c + form.substring(i + 1), -1000 - ahead.length() - i);
                    }
                }
            }
        }
        dueTown("f1;".repeat(31) + "f1x", -1095);
        dueTown("xx", -1000);
        dueTown("fxx", -1001);
    }

    private static void everyLetter() {
        Checks.sentence("\"k\" a letter of a KIND, a SQUARE (2 digits); \"v\" a letter of a KIND, two SQUARES (2 digits each, .. "
            + "\"h\" HOME (2 digits); \"f\" FINE (a digit); \"b\" BREATH (a digit)");
        for (int c = 0; c < 256; c++) {
            String one = String.valueOf((char) c);
            boolean digit = c >= '0' && c <= '9';
            boolean kind = KINDS.indexOf(c) >= 0;
            dueTown(one, "kvhfb".indexOf(c) >= 0 ? -1001 : -1000);
            dueTown("k" + one + "35;", kind ? 1 : -1001);
            dueTown("v" + one + "3535;", kind ? 1 : -1001);
            dueTown("f" + one + ";", digit ? 1 : -1001);
            dueTown("b" + one + ";", !digit ? -1001 : c == '0' ? -2000 : 1);
            dueTown("f1" + one, c == ';' ? 1 : -1002);
            dueTown("h" + one + "0;", !digit ? -1001 : c <= '3' ? 1 : -2000);
            dueTown("h3" + one + ";", !digit ? -1002 : c <= '5' ? 1 : -2000);
            dueTown("km" + one + "5;", !digit ? -1002 : c <= '3' ? 1 : -2000);
            dueTown("km3" + one + ";", !digit ? -1003 : c <= '5' ? 1 : -2000);
            dueTown("vm" + one + "535;", !digit ? -1002 : c <= '3' ? 1 : -2000);
            dueTown("vm0" + one + "09;", !digit ? -1003 : 1);
            dueTown("vm00" + one + "5;", !digit ? -1004 : c <= '3' ? 1 : -2000);
            dueTown("vm003" + one + ";", !digit ? -1005 : c <= '5' ? 1 : -2000);
        }
    }

    private static void somethingLacks() {
        Checks.sentence("(the end, if something lacks): -1000 less the place");
        for (String form : new String[] {"kw35;", "vc0035;", "h35;", "f9;", "b9;"}) {
            for (int length = 0; length < form.length(); length++) {
                dueTown(form.substring(0, length), -1000 - length);
                if (length > 0) {
                    dueTown("b5;" + form.substring(0, length), -1003 - length);
                }
            }
        }
        dueTown("f1;".repeat(31) + "b1", -1095);
        LawOfCorners x = Checks.made("f1;f1;");
        due("what was told before is no more", Checks.tell(x, "f2"), -1002);
        due("what was told before is no more", Checks.tell(x, "f"), -1001);
        due("what was told before is no more", Checks.tell(x, ""), -1000);
    }

    private static void numbersOutOfRange() {
        Checks.sentence("else kind 2 the place of the first letter of the first STATEMENT that .. is not as it must be (a number out of range, .. -2000 less the place.");
        for (int n = 0; n < 100; n++) {
            String two = "" + n / 10 + n % 10;
            int want = n <= 35 ? 1 : -2000;
            dueTown("kc" + two + ";", want);
            dueTown("h" + two + ";", want);
            dueTown("vc" + two + two + ";", want);
            dueTown("vc00" + two + ";", want);
            dueTown("vc" + two + "35;", want);
        }
        for (int n = 0; n < 10; n++) {
            dueTown("f" + n + ";", 1);
            dueTown("b" + n + ";", n == 0 ? -2000 : 1);
        }
        Checks.sentence("two SQUARES (2 digits each, the first no more than the other)");
        dueTown("vc1010;", 1);
        dueTown("vc1011;", 1);
        dueTown("vc1110;", -2000);
        dueTown("vc0035;", 1);
        dueTown("vc3500;", -2000);
        dueTown("vc3635;", -2000);
        dueTown("vc3536;", -2000);
        Checks.sentence("kind 2 the place of the first letter of the first STATEMENT");
        dueTown("f9;h36;", -2003);
        dueTown("kc00;h36;b0;", -2005);
        dueTown("vc0035;b0;h36;", -2007);
        dueTown("h35;b0;", -2004);
        dueTown("f1;".repeat(31) + "b0;", -2093);
        Checks.sentence("FAULT: kind 1 .. ; else kind 2");
        dueTown("b0;x", -1003);
        dueTown("b0;f", -1004);
        dueTown("h36;kw00;f", -1010);
    }

    private static void homeInTheText() {
        Checks.sentence("HOME on which one can not be, or that becomes so");
        dueTown("kw01;h01;", -2005);
        dueTown("kt35;h35;", -2005);
        dueTown("kc01;kn02;km03;ks04;h01;h02;h03;h04;", 8);
        dueTown("kw00;", -2000);
        dueTown("kt00;", -2000);
        dueTown("ks00;kc00;kn00;km00;", 4);
        dueTown("vw0035;", -2000);
        dueTown("h05;vw0204;vt0608;", 3);
        dueTown("h05;vw0205;", -2004);
        dueTown("h05;vt0508;", -2004);
        dueTown("h05;vw0409;", -2004);
        dueTown("h05;vw0505;", -2004);
        dueTown("h35;vw0034;", 2);
        dueTown("h35;vt3535;", -2004);
        dueTown("h35;vw0035;", -2004);
        Checks.sentence("the first STATEMENT that, behind all ahead of it in the text, is not as it must be");
        dueTown("kw00;h01;", -2000);
        dueTown("h01;kw00;", 2);
        dueTown("h01;kw00;h00;", -2009);
        dueTown("h01;kw00;ks00;h00;", 4);
        dueTown("h01;kw00;kw01;", -2009);
        dueTown("kw01;kc01;h01;", 3);
        dueTown("h01;h02;kw01;", 3);
        dueTown("h01;h02;kw02;", -2008);
        LawOfCorners x = Checks.made("h07;kw00;");
        due("behind what there was: HOME is 7", Checks.tell(x, "kw07;"), -2000);
        due("behind what there was: 0 is a wall", Checks.tell(x, "f1;h00;"), -2003);
        due("behind what there was: 0 is no HOME", Checks.tell(x, "kt00;"), 1);
    }

    private static void allOrNothing() {
        Checks.sentence("Without FAULT all of it comes, with one nothing.");
        for (String last : new String[] {"b0;", "x", "f", "kw35;", "h36;"}) {
            LawOfCorners x = new LawOfCorners();
            String told = "f9;b9;h35;kc00;vw0105;";
            int place = told.length();
            int want = last.equals("x") ? -1000 - place : last.equals("f") ? -1001 - place : -2000 - place;
            due("town() of '" + told + last + "'", Checks.tell(x, told + last), want);
            due("HOME", x.count(0), 0);
            due("FINE", x.count(1), 2);
            due("BREATH", x.count(2), 5);
            for (int s = 0; s < 36; s++) {
                due("square(" + s + ", 0)", x.square(s, 0), 0);
            }
            due("all but the FAULT comes", Checks.tell(x, told), 5);
            int[] first = {2, 1, 1, 1, 1, 1, 0};
            for (int s = 0; s < 7; s++) {
                due("square(" + s + ", 0)", x.square(s, 0), first[s]);
            }
            due("HOME", x.count(0), 35);
            due("FINE", x.count(1), 9);
            due("BREATH", x.count(2), 9);
        }
        Checks.sentence("\"v\" .. all from the one to the other");
        LawOfCorners x = Checks.made("vm0810;vc3535;vn0000;");
        for (int s = 0; s < 36; s++) {
            due("square(" + s + ", 0)", x.square(s, 0), s == 0 ? 3 : s == 35 ? 2 : s >= 8 && s <= 10 ? 5 : 0);
        }
        Checks.sentence("The letters become a TOWN, and are no more (with a FAULT neither): how many STATEMENTS; the FAULT (nothing is counted).");
        for (String text : new String[] {"", "f1;", "f", "x", "b0;"}) {
            x = new LawOfCorners();
            Checks.tell(x, text);
            due("letters behind '" + text + "'", x.count(8), 0);
            due("a letter behind '" + text + "'", x.letter('f'), 1);
            for (int what = 11; what <= 16; what++) {
                due("count(" + what + ") behind '" + text + "'", x.count(what), 0);
            }
        }
    }

    private static void square() {
        Checks.sentence("Of a SQUARE: 0 KIND (0 s, 1 w, 2 c, 3 n, 4 t, 5 m), 1 whether one can be there, 2 WORDS, 3 how far INFORMERS hear (-9), 4 whether a turn is a CORNER.");
        int[][] want = {{0, 1, 1, -9, 1}, {1, 0, 0, -9, 1}, {2, 1, 1, -9, 0}, {3, 1, 0, 1, 1}, {4, 0, 0, 2, 1}, {5, 1, 2, -9, 0}};
        for (int kind = 0; kind < 6; kind++) {
            for (int s : new int[] {0, 35}) {
                LawOfCorners x = Checks.made("h20;k" + KINDS.charAt(kind) + (s == 0 ? "00;" : "35;"));
                for (int what = 0; what < 5; what++) {
                    due("square(" + s + ", " + what + ")", x.square(s, what), want[kind][what]);
                }
                due("square(" + s + ", -1)", x.square(s, -1), -2);
                due("square(" + s + ", 5)", x.square(s, 5), -2);
            }
        }
        kinds();
    }

    private static void kinds() {
        Checks.sentence("KINDS, whether one can be there, WORDS that are said there, how far INFORMERS hear (rows and columns apart together; -9 there are none), "
            + "whether a turn is a CORNER: s STREET: one can; 1; -9; it is.");
        LawOfCorners x = Checks.made("h35;");
        dueKind(x, 0, 1, 1, -9, 1);
        Checks.sentence("w WALL under STREET: not; 0.");
        dueKind(x, 1, 0, 0, -9, 1);
        Checks.sentence("c CRESCENT under STREET: not a CORNER.");
        dueKind(x, 2, 1, 1, -9, 0);
        Checks.sentence("n NICHE under STREET: 0; 1.");
        dueKind(x, 3, 1, 0, 1, 1);
        Checks.sentence("t TURRET under WALL: hears 2.");
        dueKind(x, 4, 0, 0, 2, 1);
        Checks.sentence("m MARKET under CRESCENT: 2.");
        dueKind(x, 5, 1, 2, -9, 0);
        Checks.sentence("Where it is not told as above them.");
        int[] above = {-1, 0, 0, 0, 1, 2};
        int[][] notTold = {{}, {3, 4}, {1, 2, 3}, {1, 4}, {1, 2, 4}, {1, 3, 4}};
        for (int kind = 1; kind < 6; kind++) {
            for (int what : notTold[kind]) {
                x.turnTo(17, above[kind]);
                int due = x.square(17, what);
                x.turnTo(17, kind);
                due("square(17, " + what + ") of kind " + kind + ", as above it", x.square(17, what), due);
            }
        }
    }

    private static void dueKind(LawOfCorners x, int kind, int... want) {
        for (int s : new int[] {0, 14, 34}) {
            x.turnTo(s, kind);
            due("square(" + s + ", 0)", x.square(s, 0), kind);
            for (int what = 1; what <= 4; what++) {
                due("square(" + s + ", " + what + ") of kind " + kind, x.square(s, what), want[what - 1]);
            }
            // What it tells is what walks meet with.
            due("steps to kind " + kind, x.steps(35, s) >= 0 ? 1 : 0, want[0]);
            due("words on kind " + kind, x.words(s, 0), want[0] == 0 ? -9 : want[1]);
            due("heard on itself, kind " + kind, x.heard(s), want[2] < 0 ? 0 : 1);
            due("count(4) by kind " + kind, x.count(4), want[2] < 0 ? 0 : 1);
            due("a yard's corner, kind " + kind, x.yards(s), want[0] == 0 ? -9 : want[3] == 1 ? 0 : 1);
            x.turnTo(s, 0);
        }
    }

    private static void turnTo() {
        Checks.sentence("KIND becomes another one: what it was. -1; -2; -3 one could not be on HOME.");
        LawOfCorners x = Checks.made("h35;");
        int was = 0;
        for (int kind : new int[] {5, 4, 3, 2, 1, 0, 1, 1, 0}) {
            due("turnTo(0, " + kind + ")", x.turnTo(0, kind), was);
            due("square(0, 0)", x.square(0, 0), kind);
            was = kind;
        }
        due("turnTo(0, -1)", x.turnTo(0, -1), -2);
        due("turnTo(0, 6)", x.turnTo(0, 6), -2);
        due("turnTo(-1, 0)", x.turnTo(-1, 0), -1);
        due("turnTo(36, 0)", x.turnTo(36, 0), -1);
        due("HOME to a CRESCENT", x.turnTo(35, 2), 0);
        due("HOME to a WALL", x.turnTo(35, 1), -3);
        due("HOME to a NICHE", x.turnTo(35, 3), 2);
        due("HOME to a TURRET", x.turnTo(35, 4), -3);
        due("HOME to a MARKET", x.turnTo(35, 5), 3);
        due("HOME to a STREET", x.turnTo(35, 0), 5);
        due("beside HOME to a WALL", x.turnTo(34, 1), 0);
        due("HOME to 0", x.set(0, 0), 35);
        due("HOME no more: to a WALL", x.turnTo(35, 1), 0);
        due("HOME: to a WALL", x.turnTo(0, 1), -3);
    }

    private static void set() {
        Checks.sentence("HOME (what 0), FINE (1), BREATH (2) becomes v: what it was. -2; -1 no SQUARE; -4; -6 (9; 9); -3 one can not be there.");
        LawOfCorners x = Checks.made("kw01;kt02;kc03;kn04;km05;");
        int[][] calls = {{0, 35, 0}, {0, 36, -1}, {0, -1, -1}, {0, 1, -3}, {0, 2, -3}, {0, 3, 35}, {0, 4, 3}, {0, 5, 4}, {0, 0, 5},
            {0, 0, 0}, {1, 0, 2}, {1, -1, -4}, {1, 9, 0}, {1, 10, -6}, {1, 9, 9}, {2, 1, 5}, {2, 0, -4}, {2, 9, 1}, {2, 10, -6},
            {2, -1, -4}, {3, 1, -2}, {-1, 1, -2}, {1, MIN, -4}, {1, MAX, -6}, {2, MIN, -4}, {2, MAX, -6}, {0, MIN, -1}, {0, MAX, -1}};
        for (int[] call : calls) {
            due("set(" + call[0] + ", " + call[1] + ")", x.set(call[0], call[1]), call[2]);
        }
        due("HOME", x.count(0), 0);
        due("FINE", x.count(1), 9);
        due("BREATH", x.count(2), 9);
    }

    private static void heard() {
        Checks.sentence("HEARD by: how many SQUARES there are whose INFORMERS hear as far as that (from themselves, too)");
        for (int at : new int[] {0, 5, 6, 11, 14, 30, 35}) {
            for (int far = 1; far <= 2; far++) {
                LawOfCorners x = Checks.made("h20;");
                x.turnTo(at, far == 1 ? 3 : 4);
                for (int s = 0; s < 36; s++) {
                    due("heard(" + s + ") by one on " + at + " who hears " + far, x.heard(s), apart(at, s) <= far ? 1 : 0);
                }
            }
        }
        LawOfCorners x = Checks.made("vn0035;");
        int[] squares = {0, 1, 7, 5, 30, 35, 34};
        int[] want = {3, 4, 5, 3, 3, 3, 4};
        for (int i = 0; i < squares.length; i++) {
            due("heard(" + squares[i] + ") by all", x.heard(squares[i]), want[i]);
        }
        x = Checks.made("vt0135;");
        due("heard(14) by all but HOME", x.heard(14), 13);
        due("heard(0) by all but HOME", x.heard(0), 5);
        due("heard(-1)", x.heard(-1), -1);
        due("heard(36)", x.heard(36), -1);
        heardAtAll();
    }

    private static void heardAtAll() {
        Checks.sentence("HEARD by of a SQUARE; whether it is heard by somebody at all.");
        String[] towns = {"f2;", "kn14;", "kt14;", "kn00;", "h01;kt00;", "kn14;kn15;", "kt14;kn15;", "kt14;kt15;", "kt14;kt32;", "kt14;kw13;"};
        int[] heard = {0, 5, 13, 3, 6, 8, 13, 18, 20, 13};
        for (int i = 0; i < towns.length; i++) {
            LawOfCorners x = Checks.made(towns[i]);
            int some = 0;
            for (int s = 0; s < 36; s++) {
                some += x.heard(s) > 0 ? 1 : 0;
            }
            due("SQUARES with heard(..) in " + towns[i], some, heard[i]);
            due("count(5) in " + towns[i], x.count(5), heard[i]);
        }
    }

    private static void count() {
        Checks.sentence("0 HOME, 1 FINE, 2 BREATH, 3 SQUARES one can be on, 4 with INFORMERS, 5 HEARD ones, 6 CRESCENTS and MARKETS, 7 in the ROW, 8 letters, 11 .. 16 REFUSALS -1 .. -6. -9 for another what.");
        dueCounts("", 36, 0, 0, 0);
        dueCounts("vw0135;", 1, 0, 0, 0);
        dueCounts("vt0135;", 1, 35, 36, 0);
        dueCounts("vn0035;", 36, 36, 36, 0);
        dueCounts("vc0035;", 36, 0, 0, 36);
        dueCounts("vm0035;", 36, 0, 0, 36);
        dueCounts("vc0017;vm1835;", 36, 0, 0, 36);
        dueCounts("kn00;kt35;", 35, 2, 9, 0);
        dueCounts("kc35;", 36, 0, 0, 1);
        dueCounts("km00;", 36, 0, 0, 1);
        dueCounts("kc00;km35;", 36, 0, 0, 2);
        dueCounts("vc0103;vm1012;kw02;kt11;kn00;", 34, 2, 11, 4);
        LawOfCorners x = new LawOfCorners();
        for (int many = 1; many <= 20; many++) {
            x.row(0);
            due("count(7)", x.count(7), many);
        }
        for (int many = 1; many <= 96; many++) {
            x.letter(0);
            due("count(8)", x.count(8), many);
        }
        for (int what : new int[] {9, 10, 17, 18, -1, -9, MIN, MAX, 1 << 16}) {
            due("count(" + what + ")", x.count(what), -9);
        }
        for (int what = 11; what <= 16; what++) {
            due("count(" + what + ")", x.count(what), 0);
        }
        int[] refused = {x.square(36, 0), x.square(0, 5), x.on(), x.row(-1), x.row(10), x.letter(256), x.heard(36), x.heard(-1)};
        int[] want = {-1, -2, -3, -4, -6, -6, -1, -1};
        for (int i = 0; i < refused.length; i++) {
            due("refused call " + i, refused[i], want[i]);
        }
        int[] counts = {3, 1, 1, 1, 0, 2};
        for (int i = 0; i < 6; i++) {
            due("count(" + (11 + i) + ")", x.count(11 + i), counts[i]);
        }
    }

    private static void dueCounts(String text, int canBe, int informers, int heard, int round) {
        LawOfCorners x = text.isEmpty() ? new LawOfCorners() : Checks.made(text);
        due("count(3) of " + text, x.count(3), canBe);
        due("count(4) of " + text, x.count(4), informers);
        due("count(5) of " + text, x.count(5), heard);
        due("count(6) of " + text, x.count(6), round);
        due("count(7) of " + text, x.count(7), 0);
        due("count(8) of " + text, x.count(8), 0);
    }

    private static void image() {
        Checks.sentence("ON from it: HOME. -3 there is none.");
        LawOfCorners x = new LawOfCorners();
        due("on()", x.on(), -3);
        due("image()", x.image(), 0);
        due("on()", x.on(), 0);
        Checks.sentence("THE IMAGE: all that there is, but it, the ROW, letters, REFUSALS; ON from it all is as then.");
        x = Checks.made("h35;f9;b1;kt00;km01;");
        x.row(1);
        x.letter('f');
        x.heard(36);
        due("image()", x.image(), 35);
        due("set HOME", x.set(0, 34), 35);
        due("set FINE", x.set(1, 0), 9);
        due("set BREATH", x.set(2, 9), 1);
        due("turnTo(0, 0)", x.turnTo(0, 0), 4);
        due("turnTo(35, 1)", x.turnTo(35, 1), 0);
        x.row(2);
        x.letter('7');
        x.heard(36);
        for (int again = 0; again < 2; again++) {
            due("on()", x.on(), 35);
            due("HOME", x.count(0), 35);
            due("FINE", x.count(1), 9);
            due("BREATH", x.count(2), 1);
            due("square(0, 0)", x.square(0, 0), 4);
            due("square(1, 0)", x.square(1, 0), 5);
            due("square(35, 0)", x.square(35, 0), 0);
            due("the ROW", x.count(7), 2);
            due("letters", x.count(8), 2);
            due("REFUSALS", x.count(11), 2);
            x.set(1, 3);
            x.turnTo(1, 1);
        }
        x.letter(';');
        due("the letters are those told", x.town(), 1);
        due("FINE", x.count(1), 7);
        due("a later image()", x.image(), 35);
        due("turnTo(1, 2)", x.turnTo(1, 2), 1);
        due("on() from the later one", x.on(), 35);
        due("square(1, 0)", x.square(1, 0), 1);
        due("FINE", x.count(1), 7);
    }

    public static void main(String[] args) {
        lastCall();
        newObject();
        behindEach();
        waysAtTheEdge();
        letter();
        atLeastOne();
        firstWrongLetter();
        everyLetter();
        somethingLacks();
        numbersOutOfRange();
        homeInTheText();
        allOrNothing();
        square();
        turnTo();
        set();
        heard();
        count();
        image();
        Checks.end("TownBoundaryTest");
    }
}
