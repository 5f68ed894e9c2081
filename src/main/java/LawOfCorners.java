/**
 * A walled town of 36 squares in which nothing may be said at a corner.
 * ../shared/DOC.md tells what each method answers.
 */
public final class LawOfCorners {
    private static final int SIDE = 6;
    private static final int SQUARES = 36;
    private static final int NOWHERE = -1;

    private static final int UP = 0;
    private static final int LEFT = 1;
    private static final int RIGHT = 2;
    private static final int DOWN = 3;
    private static final int WAYS = 4;
    // Where one sets out one came by no way, so that square is never a corner.
    private static final int NO_WAY = 4;
    // A stand is a square together with the way by which one came to it.
    private static final int COMINGS = 5;
    private static final int STANDS = SQUARES * COMINGS;

    private static final int STREET = 0;
    private static final int CRESCENT = 2;
    private static final int MARKET = 5;
    private static final int KINDS = 6;
    private static final String KIND_LETTERS = "swcntm";
    private static final int[] KIND_CAN_BE = {1, 0, 1, 1, 0, 1};
    private static final int[] KIND_WORDS = {1, 0, 1, 0, 0, 2};
    private static final int[] KIND_HEARS = {-9, -9, -9, 1, 2, -9};
    private static final int NICHE_HEARS = 1;
    private static final int[] KIND_CORNER = {1, 1, 0, 1, 1, 0};

    private static final int NONE = -9;
    private static final int NOBODY = -1;
    private static final int OTHER = -2;
    private static final int STATE = -3;
    private static final int BELOW = -4;
    private static final int ROOM = -6;
    private static final int REFUSALS = 6;

    private static final int MOST_LETTERS = 96;
    private static final int MOST_LETTER = 255;
    private static final int MOST_DIGIT = 9;
    private static final int MOST_IN_ROW = 20;
    private static final int MOST_STEPS = 20;
    private static final int TALK_WORDS = 40;
    private static final int TALK_STEPS = 40;
    private static final int MOST_INFORMERS = 8;
    private static final int MOST_LOTS = 20;
    private static final int DRAWS = 20;
    private static final int WITHOUT_SIGN = 0x7fffffff;

    private static final int ASK_HOME = 0;
    private static final int ASK_FINE = 1;
    private static final int ASK_BREATH = 2;

    private final Town town = new Town();
    private final Town trial = new Town();
    private final Town kept = new Town();
    private boolean isKept;
    private final Letters letters = new Letters();
    private final Numbers told = new Numbers(MOST_IN_ROW);
    private int toldCount;
    private final Numbers refused = new Numbers(REFUSALS + 1);
    private final Stroll stroll = new Stroll(town);
    private final Reach reach = new Reach(town);
    private final Reach otherReach = new Reach(town);
    private final Routes routes = new Routes(town);
    private final Talks talks = new Talks(town);
    private final Numbers hearers = new Numbers(SQUARES);

    public LawOfCorners() {
    }

    public int letter(int c) {
        if (c < 0) {
            return refuse(BELOW);
        }
        if (c > MOST_LETTER || letters.size() >= MOST_LETTERS) {
            return refuse(ROOM);
        }
        letters.append(c);
        return letters.size();
    }

    public int town() {
        trial.takeOver(town);
        int answer = letters.build(trial);
        if (answer >= 0) {
            town.takeOver(trial);
        }
        letters.forget();
        return answer;
    }

    public int square(int square, int what) {
        if (!isSquare(square)) {
            return refuse(NOBODY);
        }
        switch (what) {
            case 0:
                return town.kindOf(square);
            case 1:
                return town.canBe(square) ? 1 : 0;
            case 2:
                return town.wordsOn(square);
            case 3:
                return town.hearing(square);
            case 4:
                return town.turnsAreCorners(square) ? 1 : 0;
            default:
                return refuse(OTHER);
        }
    }

    public int turnTo(int square, int kind) {
        if (!isSquare(square)) {
            return refuse(NOBODY);
        }
        if (kind < 0 || kind >= KINDS) {
            return refuse(OTHER);
        }
        int was = town.kindOf(square);
        if (!town.rebuild(square, square, kind)) {
            return refuse(STATE);
        }
        return was;
    }

    public int set(int what, int v) {
        switch (what) {
            case ASK_HOME:
                return setHome(v);
            case ASK_FINE:
                return setFine(v);
            case ASK_BREATH:
                return setBreath(v);
            default:
                return refuse(OTHER);
        }
    }

    public int heard(int square) {
        if (!isSquare(square)) {
            return refuse(NOBODY);
        }
        return town.heardBy(square);
    }

    public int walk(int what) {
        if (what < 0 || what > 6) {
            return refuse(OTHER);
        }
        if (!isRowOfWays()) {
            return refuse(STATE);
        }
        int stop = goTheRow();
        return what == 0 ? stop : stroll.answer(what);
    }

    public int steps(int from, int to) {
        if (!isSquare(from) || !isSquare(to)) {
            return refuse(NOBODY);
        }
        reach.spreadFrom(from);
        return reach.stepsTo(to);
    }

    public int corners(int from, int to, int what) {
        if (!isSquare(from) || !isSquare(to)) {
            return refuse(NOBODY);
        }
        if (what < 0 || what > 2) {
            return refuse(OTHER);
        }
        routes.chargeCorners();
        int label = routes.cheapest(from, to);
        if (label == NONE) {
            return NONE;
        }
        if (what == 0) {
            return Routes.cornersOf(label);
        }
        if (what == 1) {
            return Routes.stepsOf(label);
        }
        return from == to ? NONE : Routes.firstWayOf(label);
    }

    public int fines(int from, int to) {
        if (!isSquare(from) || !isSquare(to)) {
            return refuse(NOBODY);
        }
        routes.chargeFines();
        int label = routes.cheapest(from, to);
        return label == NONE ? NONE : Routes.priceOf(label) + town.fineOn(to);
    }

    public int straight(int square, int way) {
        if (!isSquare(square)) {
            return refuse(NOBODY);
        }
        if (way < 0 || way >= WAYS) {
            return refuse(OTHER);
        }
        return town.straightFrom(square, way);
    }

    public int longest(int what) {
        if (what < 0 || what > 1) {
            return refuse(OTHER);
        }
        int most = NONE;
        int start = NONE;
        for (int square = 0; square < SQUARES; square++) {
            for (int way = 0; way < WAYS && town.canBe(square); way++) {
                int gone = town.straightFrom(square, way);
                if (gone > most) {
                    most = gone;
                    start = square;
                }
            }
        }
        return what == 0 ? most : start;
    }

    public int words(int square, int n) {
        int refusal = checkWithin(square, n);
        if (refusal < 0) {
            return refusal;
        }
        talks.hush(false);
        return talks.mostWords(square, n);
    }

    public int unheard(int square, int n) {
        int refusal = checkWithin(square, n);
        if (refusal < 0) {
            return refusal;
        }
        talks.hush(true);
        return talks.mostWords(square, n);
    }

    public int talk(int square, int t) {
        if (!isSquare(square)) {
            return refuse(NOBODY);
        }
        if (t < 1) {
            return refuse(BELOW);
        }
        if (t > TALK_WORDS) {
            return refuse(ROOM);
        }
        return talks.stepsToUncut(square, t);
    }

    public int meet(int one, int other, int what) {
        if (!isSquare(one) || !isSquare(other)) {
            return refuse(NOBODY);
        }
        if (what < 0 || what > 1) {
            return refuse(OTHER);
        }
        reach.spreadFrom(one);
        otherReach.spreadFrom(other);
        int fewest = NONE;
        int place = NONE;
        for (int square = 0; square < SQUARES; square++) {
            int first = reach.stepsTo(square);
            int second = otherReach.stepsTo(square);
            int minutes = Math.max(first, second);
            if (first >= 0 && second >= 0 && (fewest == NONE || minutes < fewest)) {
                fewest = minutes;
                place = square;
            }
        }
        return what == 0 ? fewest : place;
    }

    public int roundOff(int from, int to) {
        if (!isSquare(from) || !isSquare(to)) {
            return refuse(NOBODY);
        }
        routes.chargeCorners();
        int fewest = Routes.cornersOf(routes.cheapest(from, to));
        int best = NONE;
        for (int square = 0; square < SQUARES && fewest > 0; square++) {
            if (town.kindOf(square) != STREET) {
                continue;
            }
            town.rebuild(square, square, CRESCENT);
            int then = Routes.cornersOf(routes.cheapest(from, to));
            town.rebuild(square, square, STREET);
            if (then < fewest) {
                fewest = then;
                best = square;
            }
        }
        return best;
    }

    public int newNiche(int what) {
        if (what < 0 || what > 1) {
            return refuse(OTHER);
        }
        for (int square = 0; square < SQUARES; square++) {
            hearers.put(square, town.heardBy(square));
        }
        int most = 0;
        int best = NONE;
        for (int square = 0; square < SQUARES; square++) {
            if (square == town.home() || !town.canBe(square)) {
                continue;
            }
            int more = newlyHeardFrom(square);
            if (more > most) {
                most = more;
                best = square;
            }
        }
        return what == 0 || best == NONE ? best : most;
    }

    public int enough() {
        if (informers() > MOST_INFORMERS) {
            return refuse(STATE);
        }
        int all = noteHearers();
        int best = all;
        for (int some = 0; some < all; some++) {
            if (Integer.bitCount(some) < Integer.bitCount(best) && hearAll(some)) {
                best = some;
            }
        }
        return best;
    }

    public int quiet() {
        reach.begin();
        for (int square = 0; square < SQUARES; square++) {
            if (town.heardBy(square) > 0) {
                reach.setOut(square);
            }
        }
        reach.spread();
        int most = NONE;
        int best = NONE;
        for (int square = 0; square < SQUARES; square++) {
            if (reach.stepsTo(square) > most) {
                most = reach.stepsTo(square);
                best = square;
            }
        }
        return best;
    }

    public int yards(int square) {
        if (!isSquare(square)) {
            return refuse(NOBODY);
        }
        reach.spreadFrom(square);
        int fewest = NONE;
        for (int there = 0; there < SQUARES; there++) {
            int far = reach.stepsTo(there);
            if (far >= 0 && town.isYardCorner(there) && (fewest == NONE || far < fewest)) {
                fewest = far;
            }
        }
        return fewest;
    }

    public int said(int what) {
        if (what < 0 || what > 1) {
            return refuse(OTHER);
        }
        if (toldCount == 0) {
            return refuse(STATE);
        }
        talks.fitAll(told, toldCount);
        int starts = 0;
        int least = NONE;
        for (int square = SQUARES - 1; square >= 0; square--) {
            if (talks.canStart(square)) {
                starts++;
                least = square;
            }
        }
        return what == 0 ? starts : least;
    }

    public int row(int v) {
        if (v < 0) {
            return refuse(BELOW);
        }
        if (v > MOST_DIGIT || toldCount >= MOST_IN_ROW) {
            return refuse(ROOM);
        }
        told.put(toldCount, v);
        toldCount++;
        return toldCount;
    }

    public int judge() {
        if (!isRowOfWays()) {
            return refuse(STATE);
        }
        int stop = goTheRow();
        toldCount = 0;
        return stop;
    }

    public int clear() {
        int had = toldCount;
        toldCount = 0;
        return had;
    }

    public int lots(int n, int z, int what) {
        if (n < 1) {
            return refuse(BELOW);
        }
        if (n > MOST_LOTS) {
            return refuse(ROOM);
        }
        if (what < 0 || what > 1) {
            return refuse(OTHER);
        }
        int seed = z;
        int all = 0;
        for (int i = 0; i < n; i++) {
            stroll.begin();
            for (int draw = 0; draw < DRAWS; draw++) {
                seed = seed * 1664525 + 1013904223;
                stroll.go((seed & WITHOUT_SIGN) / 256 % WAYS);
            }
            stroll.end();
            all += stroll.answer(what == 0 ? Stroll.WORDS : Stroll.CORNERS);
        }
        return all;
    }

    public int image() {
        kept.takeOver(town);
        isKept = true;
        return town.home();
    }

    public int on() {
        if (!isKept) {
            return refuse(STATE);
        }
        town.takeOver(kept);
        return town.home();
    }

    public int count(int what) {
        switch (what) {
            case ASK_HOME:
                return town.home();
            case ASK_FINE:
                return town.fine();
            case ASK_BREATH:
                return town.breath();
            case 3:
                return squaresOneCanBeOn();
            case 4:
                return informers();
            case 5:
                return squaresHeard();
            case 6:
                return town.countKind(CRESCENT) + town.countKind(MARKET);
            case 7:
                return toldCount;
            case 8:
                return letters.size();
            default:
                return what > 10 && what <= 10 + REFUSALS ? refused.at(what - 10) : NONE;
        }
    }

    private int refuse(int number) {
        refused.put(-number, refused.at(-number) + 1);
        return number;
    }

    private static boolean isSquare(int square) {
        return square >= 0 && square < SQUARES;
    }

    private int setHome(int square) {
        if (!isSquare(square)) {
            return refuse(NOBODY);
        }
        int was = town.home();
        return town.moveHome(square) ? was : refuse(STATE);
    }

    private int setFine(int v) {
        if (v < 0) {
            return refuse(BELOW);
        }
        int was = town.fine();
        return town.changeFine(v) ? was : refuse(ROOM);
    }

    private int setBreath(int v) {
        if (v < 1) {
            return refuse(BELOW);
        }
        int was = town.breath();
        return town.changeBreath(v) ? was : refuse(ROOM);
    }

    private boolean isRowOfWays() {
        for (int i = 0; i < toldCount; i++) {
            if (told.at(i) >= WAYS) {
                return false;
            }
        }
        return true;
    }

    private int goTheRow() {
        int stop = NONE;
        stroll.begin();
        for (int i = 0; i < toldCount && stop == NONE; i++) {
            if (!stroll.go(told.at(i))) {
                stop = i;
            }
        }
        stroll.end();
        return stop;
    }

    private int checkWithin(int square, int n) {
        if (!isSquare(square)) {
            return refuse(NOBODY);
        }
        if (n < 0) {
            return refuse(BELOW);
        }
        if (n > MOST_STEPS) {
            return refuse(ROOM);
        }
        return 0;
    }

    // Informers are numbered by their squares; of each square those who hear it are noted as bits.
    private int noteHearers() {
        hearers.fill(0);
        int bit = 1;
        for (int square = 0; square < SQUARES; square++) {
            if (town.hearing(square) < 0) {
                continue;
            }
            for (int there = 0; there < SQUARES; there++) {
                if (town.hears(square, there)) {
                    hearers.put(there, hearers.at(there) | bit);
                }
            }
            bit <<= 1;
        }
        return bit - 1;
    }

    private boolean hearAll(int some) {
        for (int square = 0; square < SQUARES; square++) {
            if (hearers.at(square) != 0 && (hearers.at(square) & some) == 0) {
                return false;
            }
        }
        return true;
    }

    private int informers() {
        int all = 0;
        for (int square = 0; square < SQUARES; square++) {
            all += town.hearing(square) >= 0 ? 1 : 0;
        }
        return all;
    }

    private int squaresOneCanBeOn() {
        int all = 0;
        for (int square = 0; square < SQUARES; square++) {
            all += town.canBe(square) ? 1 : 0;
        }
        return all;
    }

    private int squaresHeard() {
        int all = 0;
        for (int square = 0; square < SQUARES; square++) {
            all += town.heardBy(square) > 0 ? 1 : 0;
        }
        return all;
    }

    private int newlyHeardFrom(int square) {
        int more = 0;
        for (int there = 0; there < SQUARES; there++) {
            if (hearers.at(there) == 0 && Town.apart(square, there) <= NICHE_HEARS) {
                more++;
            }
        }
        return more;
    }

    /** Numbers in a fixed length: what lies outside reads as 0 and is not written, so no index can fail. */
    private static final class Numbers {
        private final int[] all;

        Numbers(int length) {
            all = new int[Math.max(length, 0)];
        }

        int at(int i) {
            return i >= 0 && i < all.length ? all[i] : 0;
        }

        void put(int i, int v) {
            if (i >= 0 && i < all.length) {
                all[i] = v;
            }
        }

        void fill(int v) {
            for (int i = 0; i < all.length; i++) {
                all[i] = v;
            }
        }

        void takeOver(Numbers other) {
            for (int i = 0; i < all.length; i++) {
                all[i] = other.at(i);
            }
        }
    }

    /** All that an image keeps: the kinds of the squares, home, fine and breath. */
    private static final class Town {
        private final Numbers kinds = new Numbers(SQUARES);
        private int home = 0;
        private int fine = 2;
        private int breath = 5;

        void takeOver(Town other) {
            kinds.takeOver(other.kinds);
            home = other.home;
            fine = other.fine;
            breath = other.breath;
        }

        int home() {
            return home;
        }

        int fine() {
            return fine;
        }

        int breath() {
            return breath;
        }

        boolean moveHome(int square) {
            if (!canBe(square)) {
                return false;
            }
            home = square;
            return true;
        }

        boolean changeFine(int v) {
            if (v < 0 || v > MOST_DIGIT) {
                return false;
            }
            fine = v;
            return true;
        }

        boolean changeBreath(int v) {
            if (v < 1 || v > MOST_DIGIT) {
                return false;
            }
            breath = v;
            return true;
        }

        /** Squares first to last become of a kind, unless one could not be on home then. */
        boolean rebuild(int first, int last, int kind) {
            if (first > last || !isSquare(first) || !isSquare(last)) {
                return false;
            }
            if (first <= home && home <= last && trait(KIND_CAN_BE, kind) == 0) {
                return false;
            }
            for (int square = first; square <= last; square++) {
                kinds.put(square, kind);
            }
            return true;
        }

        private static int trait(int[] traits, int kind) {
            return kind >= 0 && kind < traits.length ? traits[kind] : 0;
        }

        int kindOf(int square) {
            return kinds.at(square);
        }

        int countKind(int kind) {
            int all = 0;
            for (int square = 0; square < SQUARES; square++) {
                all += kinds.at(square) == kind ? 1 : 0;
            }
            return all;
        }

        boolean canBe(int square) {
            return isSquare(square) && trait(KIND_CAN_BE, kinds.at(square)) != 0;
        }

        int wordsOn(int square) {
            return trait(KIND_WORDS, kinds.at(square));
        }

        int hearing(int square) {
            return trait(KIND_HEARS, kinds.at(square));
        }

        boolean turnsAreCorners(int square) {
            return trait(KIND_CORNER, kinds.at(square)) != 0;
        }

        boolean isCorner(int square, int came, int goes) {
            return came != NO_WAY && came != goes && turnsAreCorners(square);
        }

        static int apart(int one, int other) {
            return Math.abs(one / SIDE - other / SIDE) + Math.abs(one % SIDE - other % SIDE);
        }

        boolean hears(int informer, int square) {
            return apart(informer, square) <= hearing(informer);
        }

        int heardBy(int square) {
            int all = 0;
            for (int informer = 0; informer < SQUARES; informer++) {
                all += apart(informer, square) <= hearing(informer) ? 1 : 0;
            }
            return all;
        }

        int fineOn(int square) {
            int said = wordsOn(square);
            return said == 0 || fine == 0 ? 0 : said * fine * heardBy(square);
        }

        private static int beside(int square, int way) {
            if (!isSquare(square)) {
                return NOWHERE;
            }
            int column = square % SIDE;
            switch (way) {
                case UP:
                    return square >= SIDE ? square - SIDE : NOWHERE;
                case LEFT:
                    return column > 0 ? square - 1 : NOWHERE;
                case RIGHT:
                    return column < SIDE - 1 ? square + 1 : NOWHERE;
                case DOWN:
                    return square < SQUARES - SIDE ? square + SIDE : NOWHERE;
                default:
                    return NOWHERE;
            }
        }

        /** The square to which one can go by a way; NOWHERE if one can not. */
        int next(int square, int way) {
            int there = beside(square, way);
            return canBe(there) ? there : NOWHERE;
        }

        int straightFrom(int square, int way) {
            if (!canBe(square)) {
                return 0;
            }
            int gone = 0;
            int there = next(square, way);
            for (int i = 0; i < SIDE && there != NOWHERE; i++) {
                gone++;
                there = next(there, way);
            }
            return gone;
        }

        boolean isYardCorner(int square) {
            boolean upOrDown = next(square, UP) != NOWHERE || next(square, DOWN) != NOWHERE;
            boolean leftOrRight = next(square, LEFT) != NOWHERE || next(square, RIGHT) != NOWHERE;
            return upOrDown && leftOrRight && turnsAreCorners(square);
        }
    }

    /** The letters in which a town is told, and what they make of one. */
    private static final class Letters {
        private static final int SOUND = -1;

        private final Numbers all = new Numbers(MOST_LETTERS);
        private int count;

        int size() {
            return count;
        }

        void append(int c) {
            if (count < MOST_LETTERS) {
                all.put(count, c);
                count++;
            }
        }

        void forget() {
            count = 0;
        }

        /** How many statements have changed the town, or the fault; with a fault the town is spoilt. */
        int build(Town site) {
            int wrong = firstWrongLetter();
            if (wrong != SOUND) {
                return -1000 - wrong;
            }
            int statements = 0;
            int place = 0;
            while (place < count) {
                if (!obey(site, place)) {
                    return -2000 - place;
                }
                statements++;
                place += 1 + formOf(all.at(place)).length();
            }
            return statements;
        }

        // What follows a statement's first letter: K stands for a kind, D for a digit.
        private static String formOf(int first) {
            switch (first) {
                case 'k':
                    return "KDD;";
                case 'v':
                    return "KDDDD;";
                case 'h':
                    return "DD;";
                case 'f':
                    return "D;";
                case 'b':
                    return "D;";
                default:
                    return "";
            }
        }

        private int firstWrongLetter() {
            int place = 0;
            while (place < count) {
                String form = formOf(all.at(place));
                if (form.isEmpty()) {
                    return place;
                }
                place++;
                for (int i = 0; i < form.length(); i++) {
                    if (place >= count || !fits(form.charAt(i), all.at(place))) {
                        return place;
                    }
                    place++;
                }
            }
            return count == 0 ? 0 : SOUND;
        }

        private static boolean fits(char due, int c) {
            if (due == 'K') {
                return KIND_LETTERS.indexOf((char) c) >= 0;
            }
            if (due == 'D') {
                return c >= '0' && c <= '9';
            }
            return c == due;
        }

        private boolean obey(Town site, int place) {
            switch (all.at(place)) {
                case 'k':
                    return site.rebuild(squareAt(place + 2), squareAt(place + 2), kindAt(place + 1));
                case 'v':
                    return site.rebuild(squareAt(place + 2), squareAt(place + 4), kindAt(place + 1));
                case 'h':
                    return site.moveHome(squareAt(place + 1));
                case 'f':
                    return site.changeFine(digitAt(place + 1));
                case 'b':
                    return site.changeBreath(digitAt(place + 1));
                default:
                    return false;
            }
        }

        private int kindAt(int place) {
            return KIND_LETTERS.indexOf((char) all.at(place));
        }

        private int digitAt(int place) {
            return all.at(place) - '0';
        }

        private int squareAt(int place) {
            return digitAt(place) * 10 + digitAt(place + 1);
        }
    }

    /** One walk from home, gone way by way. */
    private static final class Stroll {
        static final int WORDS = 2;
        static final int CORNERS = 3;

        private final Town town;
        private int square;
        private int came;
        private int allWords;
        private int allCorners;
        private int allCuts;
        private int run;
        private int longestRun;
        private final Numbers spoken = new Numbers(SQUARES);

        Stroll(Town town) {
            this.town = town;
        }

        void begin() {
            square = town.home();
            came = NO_WAY;
            allWords = 0;
            allCorners = 0;
            allCuts = 0;
            run = 0;
            longestRun = 0;
            spoken.fill(0);
        }

        boolean go(int way) {
            int there = town.next(square, way);
            if (there == NOWHERE) {
                return false;
            }
            if (town.isCorner(square, came, way)) {
                allCorners++;
                allCuts++;
                endRun();
            } else {
                speak();
            }
            square = there;
            came = way;
            return true;
        }

        /** Only here is it sure that the last square is no corner. */
        void end() {
            speak();
            endRun();
        }

        private void speak() {
            allWords += town.wordsOn(square);
            spoken.put(square, spoken.at(square) + 1);
            run += town.wordsOn(square);
        }

        private void endRun() {
            int breath = town.breath();
            if (run > 0 && breath > 0) {
                allCuts += (run - 1) / breath;
            }
            longestRun = Math.max(longestRun, run);
            run = 0;
        }

        int answer(int what) {
            switch (what) {
                case 1:
                    return square;
                case WORDS:
                    return allWords;
                case CORNERS:
                    return allCorners;
                case 4:
                    return allCuts;
                case 5:
                    return allFines();
                case 6:
                    return longestRun;
                default:
                    return NONE;
            }
        }

        private int allFines() {
            int all = 0;
            for (int there = 0; there < SQUARES; there++) {
                all += spoken.at(there) * town.fineOn(there);
            }
            return all;
        }
    }

    /** Steps from one or several squares to all others. */
    private static final class Reach {
        private final Town town;
        private final Numbers far = new Numbers(SQUARES);
        private final Numbers come = new Numbers(SQUARES);
        private int comeCount;

        Reach(Town town) {
            this.town = town;
        }

        void begin() {
            far.fill(NONE);
            comeCount = 0;
        }

        void setOut(int square) {
            if (town.canBe(square)) {
                reachAt(square, 0);
            }
        }

        void spread() {
            for (int i = 0; i < comeCount && i < SQUARES; i++) {
                int square = come.at(i);
                for (int way = 0; way < WAYS; way++) {
                    int there = town.next(square, way);
                    if (there != NOWHERE) {
                        reachAt(there, far.at(square) + 1);
                    }
                }
            }
        }

        void spreadFrom(int square) {
            begin();
            setOut(square);
            spread();
        }

        int stepsTo(int square) {
            return far.at(square);
        }

        private void reachAt(int square, int after) {
            if (far.at(square) == NONE) {
                far.put(square, after);
                come.put(comeCount, square);
                comeCount++;
            }
        }
    }

    /**
     * Cheapest walks, over stands. A label is four times a price and the first way in one number,
     * so that of walks with the same price that with the least first way is the cheapest.
     */
    private static final class Routes {
        // More than the steps of any walk that passes no stand twice.
        private static final int CORNER_PRICE = 1000;
        private static final int FAR = 0x7fffffff;
        // Far above what any town needs: each stand is mended fewer times than there are stands.
        private static final int MOST_TURNS = 1000000;

        private final Town town;
        private final Numbers label = new Numbers(STANDS);
        private final Numbers waiting = new Numbers(STANDS);
        private final Numbers isWaiting = new Numbers(STANDS);
        private int firstWaiting;
        private int waitingCount;
        private final Numbers toll = new Numbers(SQUARES);
        private int cornerPrice;
        private int stepPrice;

        Routes(Town town) {
            this.town = town;
        }

        void chargeCorners() {
            toll.fill(0);
            cornerPrice = CORNER_PRICE;
            stepPrice = 1;
        }

        void chargeFines() {
            for (int square = 0; square < SQUARES; square++) {
                toll.put(square, town.fineOn(square));
            }
            cornerPrice = 0;
            stepPrice = 0;
        }

        static int priceOf(int label) {
            return label == NONE ? NONE : label / WAYS;
        }

        static int cornersOf(int label) {
            return label == NONE ? NONE : label / WAYS / CORNER_PRICE;
        }

        static int stepsOf(int label) {
            return label == NONE ? NONE : label / WAYS % CORNER_PRICE;
        }

        static int firstWayOf(int label) {
            return label == NONE ? NONE : label % WAYS;
        }

        int cheapest(int from, int to) {
            if (!town.canBe(from)) {
                return NONE;
            }
            begin(from);
            for (int turn = 0; turn < MOST_TURNS && waitingCount > 0; turn++) {
                goOnFrom(takeWaiting());
            }
            int least = FAR;
            for (int came = 0; came < COMINGS; came++) {
                least = Math.min(least, label.at(to * COMINGS + came));
            }
            return least == FAR ? NONE : least;
        }

        private void begin(int from) {
            label.fill(FAR);
            isWaiting.fill(0);
            firstWaiting = 0;
            waitingCount = 0;
            mend(from * COMINGS + NO_WAY, 0);
        }

        private int takeWaiting() {
            int stand = waiting.at(firstWaiting);
            firstWaiting = (firstWaiting + 1) % STANDS;
            waitingCount--;
            isWaiting.put(stand, 0);
            return stand;
        }

        private void goOnFrom(int stand) {
            int square = stand / COMINGS;
            int came = stand % COMINGS;
            for (int way = 0; way < WAYS; way++) {
                int there = town.next(square, way);
                if (there == NOWHERE) {
                    continue;
                }
                int price = stepPrice + (town.isCorner(square, came, way) ? cornerPrice : toll.at(square));
                int first = came == NO_WAY ? way : 0;
                mend(there * COMINGS + way, label.at(stand) + price * WAYS + first);
            }
        }

        private void mend(int stand, int offer) {
            if (offer >= label.at(stand)) {
                return;
            }
            label.put(stand, offer);
            if (isWaiting.at(stand) == 0) {
                isWaiting.put(stand, 1);
                waiting.put((firstWaiting + waitingCount) % STANDS, stand);
                waitingCount++;
            }
        }
    }

    /** What can be said on walks, step by step over stands: a number for each stand, or CAN_NOT. */
    private static final class Talks {
        private static final int CAN_NOT = -1;

        private final Town town;
        private final Numbers now = new Numbers(STANDS);
        private final Numbers then = new Numbers(STANDS);
        private final Numbers isHushed = new Numbers(SQUARES);

        Talks(Town town) {
            this.town = town;
        }

        /** Whether squares on which a word would be heard can be on a walk only as corners. */
        void hush(boolean unheardAlone) {
            for (int square = 0; square < SQUARES; square++) {
                boolean isMute = unheardAlone && town.wordsOn(square) > 0 && town.heardBy(square) > 0;
                isHushed.put(square, isMute ? 1 : 0);
            }
        }

        int mostWords(int from, int steps) {
            if (!begin(from)) {
                return NONE;
            }
            int most = mostAtEnd();
            for (int step = 0; step < steps; step++) {
                goOn(false);
                most = Math.max(most, mostAtEnd());
            }
            return most == CAN_NOT ? NONE : most;
        }

        int stepsToUncut(int from, int words) {
            hush(false);
            if (!begin(from)) {
                return NONE;
            }
            for (int step = 0; step <= TALK_STEPS; step++) {
                if (mostAtEnd() >= words) {
                    return step;
                }
                goOn(true);
            }
            return NONE;
        }

        private boolean begin(int from) {
            now.fill(CAN_NOT);
            now.put(from * COMINGS + NO_WAY, 0);
            return town.canBe(from);
        }

        // A stand's number leaves out its own square: whether that is a corner shows when one goes on.
        private int mostAtEnd() {
            int most = CAN_NOT;
            for (int stand = 0; stand < STANDS; stand++) {
                int square = stand / COMINGS;
                if (now.at(stand) != CAN_NOT && isHushed.at(square) == 0) {
                    most = Math.max(most, now.at(stand) + town.wordsOn(square));
                }
            }
            return most;
        }

        private void goOn(boolean cornersEndTalks) {
            then.fill(CAN_NOT);
            for (int stand = 0; stand < STANDS; stand++) {
                if (now.at(stand) != CAN_NOT) {
                    goOnFrom(stand, cornersEndTalks);
                }
            }
            now.takeOver(then);
        }

        private void goOnFrom(int stand, boolean cornersEndTalks) {
            int square = stand / COMINGS;
            for (int way = 0; way < WAYS; way++) {
                int there = town.next(square, way);
                boolean isCorner = town.isCorner(square, stand % COMINGS, way);
                if (there == NOWHERE || (isHushed.at(square) != 0 && !isCorner)) {
                    continue;
                }
                int spoken = now.at(stand) + town.wordsOn(square);
                if (isCorner) {
                    spoken = cornersEndTalks ? 0 : now.at(stand);
                }
                int next = there * COMINGS + way;
                then.put(next, Math.max(then.at(next), spoken));
            }
        }

        /** From the last number back: from which stands the numbers that are left can have been said. */
        void fitAll(Numbers told, int count) {
            for (int stand = 0; stand < STANDS; stand++) {
                int square = stand / COMINGS;
                boolean fits = town.canBe(square) && town.wordsOn(square) == told.at(count - 1);
                now.put(stand, fits ? 1 : CAN_NOT);
            }
            for (int i = count - 2; i >= 0; i--) {
                for (int stand = 0; stand < STANDS; stand++) {
                    then.put(stand, fitsBefore(stand, told.at(i)) ? 1 : CAN_NOT);
                }
                now.takeOver(then);
            }
        }

        boolean canStart(int square) {
            return now.at(square * COMINGS + NO_WAY) == 1;
        }

        private boolean fitsBefore(int stand, int number) {
            int square = stand / COMINGS;
            if (!town.canBe(square)) {
                return false;
            }
            for (int way = 0; way < WAYS; way++) {
                int there = town.next(square, way);
                boolean isCorner = town.isCorner(square, stand % COMINGS, way);
                int spoken = isCorner ? 0 : town.wordsOn(square);
                if (there != NOWHERE && spoken == number && now.at(there * COMINGS + way) == 1) {
                    return true;
                }
            }
            return false;
        }
    }
}
