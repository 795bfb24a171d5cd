/**
 * A club in which the loser takes home what the winner has: the games, what would be best to play,
 * and what was told of games, read back. The numbered promises stand in ../shared/DOC.md.
 */
public final class LoserKeepsTheBoard {
    public static final int NONE = -1, BAD = -2, STATE = -3, FULL = -4;
    public static final long NO = -4611686018427387904L;

    private static final int NONE_SUCH = -1000, FAULTY = -100;
    private static final int MISSING = -11, OUTSIDE = -12, OTHER_SORT = -13, BELOW_ZERO = -14;

    private static final int MOST_PLAYERS = 6, MOST_NUMBER = 9, MOST_STRONG = 99, FIRST_STRONG = 50;
    private static final int THINGS = 8, ALL_THINGS = 255, MOST_ROUND = 999, MOST_WON = 999;
    private static final int PLAYER = 0, MASTER = 1, BOY = 2, CHAMPION = 3, GROOM = 4, WIDOW = 5, KINDS = 6;
    private static final int MOST_SOON = 20, MOST_GAMES = 60, CHANCE_GAMES = 6, MOST_SEEDS = 20, MOST_ALL = 3;
    private static final int TRIED = 100, THROWN = -1;

    // More than an ORDER's digits can come to.
    private static final int ORDERS = 100000;

    private static final int TAPE_SIZE = 160, MOST_TEXTS = 6, MOST_OPEN = 5, MOST_DIGITS = 4, STACK_SIZE = 64;
    private static final int PLAYS_PART = 0, THROWS_PART = 1, TIRES_PART = 2, PARTS = 3;
    private static final String FIRST_RULE = "plays strong ; throws has < 1 ; tires 1 ;";

    // What a TEXT names, as places in the row of a pair's values.
    private static final int STRONG = 0, HAS = 1, NUMBER = 2, THEIRS = 3, ROUND = 4, STAKE = 5, NAMES = 6;

    // A TEXT's code, operands ahead of what joins them: 0 or more is a number, -1 - k a NAME, else one of these.
    private static final int ADD = -11, LESSEN = -12, TIMES = -13, NEGATE = -14;
    private static final int SMALLER = -15, SAME = -16, BOTH = -17, EITHER = -18, INVERT = -19;

    // TOKENS: a SIGN is its own byte, and no other TOKEN is one; a part's KEY is FIRST_PART + part, a NAME is
    // FIRST_NAME + its place in the row of values.
    private static final int FIRST_PART = 1, KEY_OR = 4, KEY_AND = 5, KEY_NOT = 6;
    private static final int A_NUMBER = 7, AT_END = 8, NO_TOKEN = 9, FIRST_NAME = 10;

    private static final int SHEETS = 4, MOST_ITEMS = 40;
    private static final int NO_ROW = -1, BYTES = 0, SHORTS = 1, INTS = 2;

    private final Texts texts;
    private final Reader reader;
    private final Club now;
    private final Club kept;
    private boolean isKept;
    private final Club thought;
    private final Club[] thoughts;
    private final Sheet[] sheets;

    public LoserKeepsTheBoard() {
        texts = new Texts();
        reader = new Reader();
        reader.write(FIRST_RULE);
        texts.add(reader.read());
        now = new Club(texts);
        kept = new Club(texts);
        thought = new Club(texts);
        thoughts = new Club[MOST_PLAYERS - 1];
        for (int i = 0; i < thoughts.length; i++) {
            thoughts[i] = new Club(texts);
        }
        sheets = new Sheet[SHEETS];
        for (int i = 0; i < sheets.length; i++) {
            sheets[i] = new Sheet();
        }
    }

    // ---- things, players

    public int set(int what, int of, int v) {
        switch (what) {
            case 0:
                return setRound(v);
            case 1:
                return setPlace(of, v);
            case 2:
                return setOf(now.number, of, v, MOST_NUMBER);
            case 3:
                return setOf(now.strong, of, v, MOST_STRONG);
            default:
                return NONE_SUCH;
        }
    }

    private int setRound(int v) {
        if (!isWithin(v, 0, MOST_ROUND)) {
            return NONE_SUCH;
        }
        int was = now.round;
        now.round = v;
        return was;
    }

    private int setPlace(int thing, int v) {
        if (!isWithin(thing, 0, THINGS - 1) || v != NONE && !now.isPlayer(v)) {
            return NONE_SUCH;
        }
        int was = now.placeOf(thing);
        now.bring(thing, v);
        return was;
    }

    private int setOf(int[] row, int of, int v, int most) {
        if (!now.isPlayer(of) || of >= row.length || !isWithin(v, 0, most)) {
            return NONE_SUCH;
        }
        int was = row[of];
        row[of] = v;
        return was;
    }

    public int player(int kind, int number) {
        return now.comes(kind, number);
    }

    public int told(int of, int what) {
        if (what == 0) {
            return now.round;
        }
        if (what == 1) {
            return isWithin(of, 0, THINGS - 1) ? now.placeOf(of) : NONE_SUCH;
        }
        if (!now.isPlayer(of)) {
            return NONE_SUCH;
        }
        switch (what) {
            case 2:
                return now.number[of];
            case 3:
                return now.strong[of];
            case 4:
                return now.kind[of];
            case 5:
                return now.won[of];
            case 6:
                return now.has[of];
            case 7:
                return now.howMany(of);
            default:
                return NONE_SUCH;
        }
    }

    public int asks(int one, int other, int what) {
        if (!now.areTwo(one, other)) {
            return NONE_SUCH;
        }
        switch (what) {
            case 0:
                return now.power(one, other);
            case 1:
                return now.power(other, one);
            case 2:
                return now.tiring(one, other, true);
            case 3:
                return now.tiring(one, other, false);
            case 4:
                return now.winner(one, other);
            case 5:
                return manyBehindGame(one, other);
            default:
                return NONE_SUCH;
        }
    }

    private int manyBehindGame(int one, int other) {
        Club then = think();
        then.meet(one, other);
        return then.howMany(one);
    }

    // ---- texts

    public int feed(int letter) {
        if (!isWithin(letter, 0, 255)) {
            return BAD;
        }
        return reader.append(letter) ? reader.size : FULL;
    }

    public int text() {
        if (texts.many >= MOST_TEXTS) {
            return FULL;
        }
        Text read = reader.read();
        if (read == null) {
            return FAULTY - reader.fault;
        }
        return texts.add(read);
    }

    public int force(int text) {
        if (!isWithin(text, 0, texts.many - 1)) {
            return BAD;
        }
        int was = now.rule;
        now.rule = text;
        return was;
    }

    // ---- games, evenings

    public int game(int one, int other) {
        if (!now.areTwo(one, other)) {
            return BAD;
        }
        if (now.round >= MOST_ROUND) {
            return STATE;
        }
        return now.meet(one, other);
    }

    public int evening(int sheet, int what) {
        Sheet told = sheetAt(sheet);
        if (told == null || !isWithin(what, 0, 8) || what < MOST_PLAYERS && !now.isPlayer(what)) {
            return BAD;
        }
        if (told.isMissing()) {
            return MISSING;
        }
        if (!tellsGames(told)) {
            return BAD;
        }
        Club then = think();
        int draws = playTold(then, told);
        switch (what) {
            case 6:
                return then.manyInHall();
            case 7:
                return draws;
            case 8:
                return then.whoHasMost();
            default:
                return then.howMany(what);
        }
    }

    public int play(int sheet) {
        Sheet told = sheetAt(sheet);
        if (told == null) {
            return BAD;
        }
        if (told.isMissing()) {
            return MISSING;
        }
        if (!tellsGames(told)) {
            return BAD;
        }
        if (now.round + told.size > MOST_ROUND) {
            return STATE;
        }
        return playTold(now, told);
    }

    private boolean tellsGames(Sheet told) {
        for (int i = 0; i < told.size; i++) {
            if (!now.areTwo(told.item(i) / 10, told.item(i) % 10)) {
                return false;
            }
        }
        return true;
    }

    /** How many of the games are draws. */
    private static int playTold(Club club, Sheet told) {
        int draws = 0;
        for (int i = 0; i < told.size; i++) {
            if (club.meet(told.item(i) / 10, told.item(i) % 10) == NONE) {
                draws++;
            }
        }
        return draws;
    }

    public int robin(int what) {
        if (!isWithin(what, 0, 8) || what < MOST_PLAYERS && !now.isPlayer(what)) {
            return BAD;
        }
        if (what == 7) {
            return keptApart();
        }
        if (what == 8) {
            return rings();
        }
        Club then = robinWithout(NONE);
        return what == 6 ? then.hall : then.has[what];
    }

    /** ROUND ROBIN in thought, the game of one pair (10 times the lesser, and the other) left out. */
    private Club robinWithout(int pair) {
        Club then = think();
        for (int one = 0; one < now.many; one++) {
            for (int other = one + 1; other < now.many; other++) {
                if (10 * one + other != pair) {
                    then.meet(one, other);
                }
            }
        }
        return then;
    }

    private int keptApart() {
        int fewest = robinWithout(NONE).manyInHall();
        int apart = NONE;
        for (int one = 0; one < now.many; one++) {
            for (int other = one + 1; other < now.many; other++) {
                int left = robinWithout(10 * one + other).manyInHall();
                if (left < fewest) {
                    fewest = left;
                    apart = 10 * one + other;
                }
            }
        }
        return apart;
    }

    private int rings() {
        int rings = 0;
        for (int a = 0; a < now.many; a++) {
            for (int b = a + 1; b < now.many; b++) {
                for (int c = b + 1; c < now.many; c++) {
                    if (isRing(a, b, c) || isRing(a, c, b)) {
                        rings++;
                    }
                }
            }
        }
        return rings;
    }

    private boolean isRing(int a, int b, int c) {
        return now.winner(a, b) == a && now.winner(b, c) == b && now.winner(c, a) == c;
    }

    // ---- what would be best

    public int best(int one, int what) {
        if (!now.isPlayer(one) || !isWithin(what, 0, 1)) {
            return BAD;
        }
        int most = NONE;
        int with = NONE;
        for (int other = 0; other < now.many; other++) {
            int many = other == one ? NONE : manyBehindGame(one, other);
            if (many > most) {
                most = many;
                with = other;
            }
        }
        return what == 0 ? with : most;
    }

    public int order(int one, int what) {
        if (!now.isPlayer(one) || !isWithin(what, 0, 1)) {
            return BAD;
        }
        int best = bestOrder(now, thoughts, one, 0, 1 << one, 0);
        return what == 0 ? ORDERS - 1 - best % ORDERS : best / ORDERS;
    }

    /**
     * The best way on behind so many games with all whom one has not met: ORDERS times the THINGS that one would
     * HAVE, and ORDERS - 1 less the digits, so that of like ones the first is the highest.
     */
    private static int bestOrder(Club club, Club[] thoughts, int one, int games, int met, int digits) {
        if (games >= club.many - 1) {
            return club.howMany(one) * ORDERS + ORDERS - 1 - digits;
        }
        int best = 0;
        for (int other = 0; other < club.many; other++) {
            Club then = (met >> other & 1) != 0 ? null : thinkOn(club, thoughts, games);
            if (then != null) {
                then.meet(one, other);
                int way = bestOrder(then, thoughts, one, games + 1, met | 1 << other, digits * 10 + other + 1);
                best = Math.max(best, way);
            }
        }
        return best;
    }

    public int all(int n) {
        if (!isWithin(n, 0, MOST_ALL)) {
            return BAD;
        }
        if (n == MOST_ALL && now.many > 4) {
            return STATE;
        }
        return whoCouldHaveAll(now, thoughts, 0, n);
    }

    private static int whoCouldHaveAll(Club club, Club[] thoughts, int games, int n) {
        int who = club.whoHasAll();
        if (games >= n) {
            return who;
        }
        for (int one = 0; one < club.many; one++) {
            for (int other = one + 1; other < club.many; other++) {
                Club then = thinkOn(club, thoughts, games);
                if (then != null) {
                    then.meet(one, other);
                    who |= whoCouldHaveAll(then, thoughts, games + 1, n);
                }
            }
        }
        return who;
    }

    public int soon(int one, int other) {
        if (!now.areTwo(one, other)) {
            return BAD;
        }
        Club then = think();
        for (int games = 0; games <= MOST_SOON; games++) {
            if (then.has[one] == 0) {
                return games;
            }
            then.meet(one, other);
        }
        return NONE;
    }

    // ---- games that were told

    public int tells(int sheet, int one, int what) {
        Sheet told = sheetAt(sheet);
        if (told == null || !now.isPlayer(one) || !isWithin(what, 0, 8)) {
            return BAD;
        }
        if (told.isMissing()) {
            return MISSING;
        }
        if (told.size != now.many) {
            return BAD;
        }
        switch (what) {
            case 0:
                return firstOtherwise(now, told, one);
            case 3:
                return howManyFit(told, one, STRONG);
            case 4:
                return leastThatFits(told, one, STRONG);
            case 5:
                return howManyFit(told, one, ROUND);
            case 6:
                return leastThatFits(told, one, ROUND);
            case 8:
                return playersThatFit(told);
            default:
                return bitsThatFit(told, one, what);
        }
    }

    /** The first of PLAYERS against whom one's POWER is not as told. */
    private static int firstOtherwise(Club club, Sheet told, int one) {
        for (int other = 0; other < club.many; other++) {
            if (club.power(one, other) != told.item(other)) {
                return other;
            }
        }
        return NONE;
    }

    /** Would all be as told, were one so STRONG, or the ROUND so? */
    private boolean fits(Sheet told, int one, int name, int value) {
        Club then = think();
        if (!then.isPlayer(one)) {
            return false;
        }
        if (name == STRONG) {
            then.strong[one] = value;
        } else {
            then.round = value;
        }
        return firstOtherwise(then, told, one) == NONE;
    }

    private int howManyFit(Sheet told, int one, int name) {
        int many = 0;
        for (int value = 0; value < TRIED; value++) {
            if (fits(told, one, name, value)) {
                many++;
            }
        }
        return many;
    }

    private int leastThatFits(Sheet told, int one, int name) {
        for (int value = 0; value < TRIED; value++) {
            if (fits(told, one, name, value)) {
                return value;
            }
        }
        return NONE;
    }

    private int playersThatFit(Sheet told) {
        int bits = 0;
        for (int one = 0; one < now.many; one++) {
            if (firstOtherwise(now, told, one) == NONE) {
                bits |= 1 << one;
            }
        }
        return bits;
    }

    /** KINDS (what 1), NUMBERS (2) or TEXTS (7) by which all would be as told. */
    private int bitsThatFit(Sheet told, int one, int what) {
        int choices = what == 1 ? KINDS : what == 2 ? MOST_NUMBER + 1 : texts.many;
        Club then = think();
        if (!then.isPlayer(one)) {
            return 0;
        }
        int bits = 0;
        for (int choice = 0; choice < choices; choice++) {
            if (what == 1) {
                then.kind[one] = choice;
            } else if (what == 2) {
                then.number[one] = choice;
            } else {
                then.rule = choice;
            }
            if (firstOtherwise(then, told, one) == NONE) {
                bits |= 1 << choice;
            }
        }
        return bits;
    }

    public int film(int sheet, int one) {
        Sheet row = sheetAt(sheet);
        if (row == null || !now.isPlayer(one)) {
            return BAD;
        }
        row.becomes(SHORTS, now.many);
        for (int other = 0; other < now.many; other++) {
            row.put(other, now.power(one, other));
        }
        return now.many;
    }

    public int drawn(int seed, int one, int n) {
        if (!now.isPlayer(one) || !isWithin(n, 0, MOST_GAMES)) {
            return BAD;
        }
        return hasBehindDrawn(seed, one, n);
    }

    private int hasBehindDrawn(int seed, int one, int n) {
        Club then = think();
        if (!then.isPlayer(one)) {
            return 0;
        }
        int many = then.many;
        int z = seed;
        for (int games = 0; games < n && many > 1; games++) {
            z = z * 1103515245 + 12345;
            int first = (z >>> 9) % many;
            int further = 1 + (z >>> 17) % (many - 1);
            then.meet(first, (first + further) % many);
        }
        return then.has[one];
    }

    public long chance(int seed, int m, int one, int k, int part) {
        if (!isWithin(m, 1, MOST_SEEDS) || !now.isPlayer(one)) {
            return NO;
        }
        if (!isWithin(k, 0, THINGS) || !isWithin(part, 0, 1)) {
            return NO;
        }
        int above = 0;
        for (int i = 0; i < m; i++) {
            if (Integer.bitCount(hasBehindDrawn(seed + i, one, CHANCE_GAMES)) >= k) {
                above++;
            }
        }
        return partOfLowest(part, above, m);
    }

    /** Above (part 0) or below the line (1), both divided by the greatest number that divides both. */
    private static int partOfLowest(int part, int above, int below) {
        for (int factor = below; factor > 0; factor--) {
            if (above % factor == 0 && below % factor == 0) {
                return part == 0 ? above / factor : below / factor;
            }
        }
        return NONE;
    }

    public int image() {
        kept.takes(now);
        isKept = true;
        return now.many;
    }

    public int back() {
        if (!isKept) {
            return STATE;
        }
        now.takes(kept);
        return now.many;
    }

    public int count(int what) {
        switch (what) {
            case 0:
                return now.many;
            case 1:
                return now.manyInHall();
            case 2:
                return now.round;
            case 3:
                return texts.many;
            case 4:
                return reader.size;
            case 5:
                return now.rule;
            default:
                return BAD;
        }
    }

    // ---- the host

    public int sheet(int sheet, int sort, int n) {
        Sheet row = sheetAt(sheet);
        if (row == null || !isWithin(sort, NO_ROW, INTS)) {
            return BAD;
        }
        if (sort == NO_ROW) {
            row.becomes(NO_ROW, 0);
            return 1;
        }
        if (n > MOST_ITEMS) {
            return BAD;
        }
        if (n < 0) {
            return BELOW_ZERO;
        }
        row.becomes(sort, n);
        return 1;
    }

    public int cell(int sheet, int i, int v) {
        Sheet row = sheetAt(sheet);
        if (row == null) {
            return BAD;
        }
        if (row.isMissing()) {
            return MISSING;
        }
        if (!row.holds(i, 1)) {
            return OUTSIDE;
        }
        row.put(i, v);
        return 1;
    }

    public int copy(int sheet, int i, int other, int j, int n) {
        Sheet from = sheetAt(sheet);
        Sheet to = sheetAt(other);
        if (from == null || to == null) {
            return BAD;
        }
        if (from.isMissing() || to.isMissing()) {
            return MISSING;
        }
        if (from.sort != to.sort) {
            return OTHER_SORT;
        }
        if (!from.holds(i, n) || !to.holds(j, n)) {
            return OUTSIDE;
        }
        System.arraycopy(from.items, i, to.items, j, n);
        return n;
    }

    public int players(int sheet, int sort, int from, int n) {
        Sheet row = sheetAt(sheet);
        if (row == null || !isWithin(sort, BYTES, INTS) || !isWithin(n, 0, MOST_PLAYERS)) {
            return BAD;
        }
        if (row.isMissing()) {
            return MISSING;
        }
        if (row.sort != sort) {
            return OTHER_SORT;
        }
        int came = 0;
        for (int i = 0; i < n; i++) {
            int place = from + 2 * i;
            if (!row.holds(place, 2)) {
                return OUTSIDE;
            }
            if (now.comes(row.item(place), row.item(place + 1)) >= 0) {
                came++;
            }
        }
        return came;
    }

    public int taken(int player, int k) {
        if (!isWithin(k, 0, KINDS - 1)) {
            return BAD;
        }
        if (!now.isPlayer(player)) {
            return MISSING;
        }
        return isOfKind(now.kind[player], k) ? now.number[player] : OTHER_SORT;
    }

    // ---- what several of these use

    private Sheet sheetAt(int sheet) {
        return sheet >= 0 && sheet < sheets.length ? sheets[sheet] : null;
    }

    /** The club in thought, as all is now: games in it change nothing else. */
    private Club think() {
        thought.takes(now);
        return thought;
    }

    /** A club in thought as that one is, which so many games led to; null if they are more than any search plays. */
    private static Club thinkOn(Club club, Club[] thoughts, int games) {
        Club then = games >= 0 && games < thoughts.length ? thoughts[games] : null;
        if (then != null) {
            then.takes(club);
        }
        return then;
    }

    private static boolean isWithin(int v, int least, int most) {
        return v >= least && v <= most;
    }

    private static int bounded(int v, int least, int most) {
        return v < least ? least : v > most ? most : v;
    }

    private static int kindAbove(int kind) {
        switch (kind) {
            case MASTER:
            case BOY:
            case WIDOW:
                return PLAYER;
            case CHAMPION:
                return MASTER;
            case GROOM:
                return BOY;
            default:
                return NONE;
        }
    }

    private static boolean isOfKind(int kind, int k) {
        int above = kind;
        for (int i = 0; i < KINDS && above != NONE; i++) {
            if (above == k) {
                return true;
            }
            above = kindAbove(above);
        }
        return false;
    }

    /** Who plays, what is where, and all else that a game changes or asks for. */
    private static final class Club {
        final Texts texts;
        final int[] kind = new int[MOST_PLAYERS];
        final int[] number = new int[MOST_PLAYERS];
        final int[] strong = new int[MOST_PLAYERS];
        final int[] won = new int[MOST_PLAYERS];
        final int[] has = new int[MOST_PLAYERS];
        int hall = ALL_THINGS;
        int many = 0;
        int round = 0;
        int rule = 0;

        Club(Texts texts) {
            this.texts = texts;
        }

        void takes(Club club) {
            if (club == null) {
                return;
            }
            for (int i = 0; i < MOST_PLAYERS; i++) {
                kind[i] = club.kind[i];
                number[i] = club.number[i];
                strong[i] = club.strong[i];
                won[i] = club.won[i];
                has[i] = club.has[i];
            }
            hall = club.hall;
            many = club.many;
            round = club.round;
            rule = club.rule;
        }

        int comes(int itsKind, int itsNumber) {
            if (!isWithin(itsKind, 0, KINDS - 1) || !isWithin(itsNumber, 0, MOST_NUMBER)) {
                return BAD;
            }
            if (many < 0 || many >= MOST_PLAYERS) {
                return FULL;
            }
            kind[many] = itsKind;
            number[many] = itsNumber;
            strong[many] = FIRST_STRONG;
            won[many] = 0;
            has[many] = 0;
            many++;
            return many - 1;
        }

        boolean isPlayer(int one) {
            return one >= 0 && one < many && one < MOST_PLAYERS;
        }

        boolean areTwo(int one, int other) {
            boolean isOne = one >= 0 && one < many && one < MOST_PLAYERS;
            return isOne && other >= 0 && other < many && other < MOST_PLAYERS && one != other;
        }

        int placeOf(int thing) {
            for (int one = 0; one < MOST_PLAYERS; one++) {
                if ((has[one] >> thing & 1) != 0) {
                    return one;
                }
            }
            return NONE;
        }

        void bring(int thing, int to) {
            int bit = 1 << thing;
            hall &= ~bit;
            for (int one = 0; one < MOST_PLAYERS; one++) {
                has[one] &= ~bit;
            }
            if (isPlayer(to)) {
                has[to] |= bit;
            } else {
                hall |= bit;
            }
        }

        int manyInHall() {
            return Integer.bitCount(hall);
        }

        int howMany(int one) {
            return isPlayer(one) ? Integer.bitCount(has[one]) : 0;
        }

        int whoHasMost() {
            int most = 0;
            int who = NONE;
            for (int one = 0; one < many; one++) {
                if (howMany(one) > most) {
                    most = howMany(one);
                    who = one;
                }
            }
            return who;
        }

        int whoHasAll() {
            int bits = 0;
            for (int one = 0; one < many; one++) {
                if (howMany(one) == THINGS) {
                    bits |= 1 << one;
                }
            }
            return bits;
        }

        /** Names to THE RULE all that it may ask of the one and the other. */
        private void nameValues(int one, int other) {
            int[] values = texts.values;
            values[STRONG] = strong[one];
            values[HAS] = Integer.bitCount(has[one]);
            values[NUMBER] = number[one];
            values[THEIRS] = strong[other];
            values[ROUND] = round;
            values[STAKE] = Integer.bitCount(has[other] | hall);
        }

        private int playsBy(int v, int one) {
            switch (kind[one]) {
                case MASTER:
                    return 2 * v;
                case BOY:
                    return v / 2;
                case CHAMPION:
                    return has[one] == 0 ? 2 * v + number[one] : 2 * v;
                case GROOM:
                    return round % 10 == number[one] ? v / 2 + 50 : v / 2;
                case WIDOW:
                    return 0;
                default:
                    return v;
            }
        }

        private boolean throwsBy(boolean yes, int one, int other) {
            switch (kind[one]) {
                case MASTER:
                    return yes && Integer.bitCount(has[one]) < 4;
                case BOY:
                case GROOM:
                    return false;
                case CHAMPION:
                    return yes && Integer.bitCount(has[one]) < 4 || has[other] != 0;
                default:
                    return yes;
            }
        }

        private int tiresBy(int v, int one, boolean hasWon) {
            switch (kind[one]) {
                case MASTER:
                    return hasWon ? 0 : v;
                case BOY:
                    return -v;
                case CHAMPION:
                    return hasWon ? 1 : v + 1;
                case GROOM:
                    return -v - 3;
                case WIDOW:
                    return 0;
                default:
                    return v;
            }
        }

        /** The POWER of one against the other; 0 against oneself. */
        int power(int one, int other) {
            if (!areTwo(one, other)) {
                return 0;
            }
            nameValues(one, other);
            if (throwsBy(texts.valueOf(rule, THROWS_PART) != 0, one, other)) {
                return THROWN;
            }
            int v = bounded(texts.valueOf(rule, PLAYS_PART), 0, 99);
            return bounded(playsBy(v, one), 0, 999);
        }

        int tiring(int one, int other, boolean hasWon) {
            if (!areTwo(one, other)) {
                return 0;
            }
            nameValues(one, other);
            int v = bounded(texts.valueOf(rule, TIRES_PART), -9, 9);
            return bounded(tiresBy(v, one, hasWon), -99, 99);
        }

        int winner(int one, int other) {
            int difference = power(one, other) - power(other, one);
            return difference == 0 ? NONE : difference > 0 ? one : other;
        }

        /** A GAME in this club: who won. */
        int meet(int one, int other) {
            if (!areTwo(one, other)) {
                return NONE;
            }
            int winner = winner(one, other);
            int oneTires = tiring(one, other, winner == one);
            int otherTires = tiring(other, one, winner == other);
            if (winner == NONE) {
                hall |= has[one] | has[other];
                has[one] = 0;
                has[other] = 0;
            } else if (winner == one) {
                loses(other, one);
            } else {
                loses(one, other);
            }
            strong[one] = bounded(strong[one] - oneTires, 0, MOST_STRONG);
            strong[other] = bounded(strong[other] - otherTires, 0, MOST_STRONG);
            round++;
            return winner;
        }

        private void loses(int loser, int winner) {
            has[loser] |= has[winner] | hall;
            has[winner] = 0;
            hall = 0;
            won[winner] = bounded(won[winner] + 1, 0, MOST_WON);
        }
    }

    /** A TEXT as code for a stack: its parts, one behind the other, and where each of them ends. */
    private static final class Text {
        final int[] code;
        final int[] ends;

        Text(int[] code, int[] ends) {
            this.code = code;
            this.ends = ends;
        }

        int codeAt(int i) {
            return i >= 0 && i < code.length ? code[i] : 0;
        }

        /** Where a part ends, and the next one begins; 0 ahead of the first. */
        int endOf(int part) {
            return part >= 0 && part < ends.length ? ends[part] : 0;
        }
    }

    /** All TEXTS, and the rows that working one out needs. */
    private static final class Texts {
        final Text[] row = new Text[MOST_TEXTS];
        final int[] values = new int[NAMES];
        final int[] stack = new int[STACK_SIZE];
        int many = 0;

        int add(Text text) {
            if (text == null || many < 0 || many >= MOST_TEXTS) {
                return NONE;
            }
            row[many] = text;
            many++;
            return many - 1;
        }

        /** What a part of a TEXT tells of those whose values are named. */
        int valueOf(int number, int part) {
            Text text = number >= 0 && number < MOST_TEXTS ? row[number] : null;
            if (text == null) {
                return 0;
            }
            int till = text.endOf(part);
            int top = 0;
            for (int i = text.endOf(part - 1); i < till; i++) {
                int c = text.codeAt(i);
                if (c >= -NAMES && top < STACK_SIZE) {
                    stack[top] = c >= 0 ? c : values[-1 - c];
                    top++;
                } else if (c == NEGATE && top > 0) {
                    stack[top - 1] = -stack[top - 1];
                } else if (c == INVERT && top > 0) {
                    stack[top - 1] = stack[top - 1] == 0 ? 1 : 0;
                } else if (top > 1) {
                    top--;
                    stack[top - 1] = joined(c, stack[top - 1], stack[top]);
                }
            }
            return top > 0 ? stack[0] : 0;
        }

        private static int joined(int code, int left, int right) {
            switch (code) {
                case ADD:
                    return left + right;
                case LESSEN:
                    return left - right;
                case TIMES:
                    return left * right;
                case SMALLER:
                    return left < right ? 1 : 0;
                case SAME:
                    return left == right ? 1 : 0;
                case BOTH:
                    return left != 0 && right != 0 ? 1 : 0;
                case EITHER:
                    return left != 0 || right != 0 ? 1 : 0;
                default:
                    return 0;
            }
        }
    }

    /** THE TAPE, and how a TEXT is read from it. */
    private static final class Reader {
        final int[] tape = new int[TAPE_SIZE];
        int size = 0;
        int fault = NONE;
        private final int[] code = new int[TAPE_SIZE];
        private int codes = 0;
        private int place = 0;
        private int token = NO_TOKEN;
        private int tokenFrom = 0;
        private int value = 0;

        boolean append(int letter) {
            if (size < 0 || size >= TAPE_SIZE) {
                return false;
            }
            tape[size] = letter;
            size++;
            return true;
        }

        void write(String text) {
            for (int i = 0; i < text.length(); i++) {
                append(text.charAt(i));
            }
        }

        /** The TEXT on THE TAPE, which is empty then; null by a FAULT. */
        Text read() {
            fault = NONE;
            codes = 0;
            place = 0;
            int[] ends = new int[PARTS];
            next();
            for (int part = 0; part < PARTS; part++) {
                expect(FIRST_PART + part);
                readEither(0);
                expect(';');
                ends[part] = codes;
            }
            expect(AT_END);
            size = 0;
            return fault == NONE ? new Text(madeCode(), ends) : null;
        }

        private int[] madeCode() {
            int[] made = new int[bounded(codes, 0, TAPE_SIZE)];
            for (int i = 0; i < made.length && i < TAPE_SIZE; i++) {
                made[i] = code[i];
            }
            return made;
        }

        private void readEither(int open) {
            readBoth(open);
            for (int i = 0; i < TAPE_SIZE && token == KEY_OR; i++) {
                next();
                readBoth(open);
                emit(EITHER);
            }
        }

        private void readBoth(int open) {
            readNot(open);
            for (int i = 0; i < TAPE_SIZE && token == KEY_AND; i++) {
                next();
                readNot(open);
                emit(BOTH);
            }
        }

        private void readNot(int open) {
            int nots = passed(KEY_NOT, open);
            readCompared(open + nots);
            for (int i = 0; i < nots; i++) {
                emit(INVERT);
            }
        }

        private void readCompared(int open) {
            readSum(open);
            if (token == '<' || token == '=') {
                int sign = token;
                next();
                readSum(open);
                emit(sign == '<' ? SMALLER : SAME);
            }
        }

        private void readSum(int open) {
            readTerm(open);
            for (int i = 0; i < TAPE_SIZE && (token == '+' || token == '-'); i++) {
                int sign = token;
                next();
                readTerm(open);
                emit(sign == '+' ? ADD : LESSEN);
            }
        }

        private void readTerm(int open) {
            readOne(open);
            for (int i = 0; i < TAPE_SIZE && token == '*'; i++) {
                next();
                readOne(open);
                emit(TIMES);
            }
        }

        private void readOne(int open) {
            int minuses = passed('-', open);
            readPlain(open + minuses);
            for (int i = 0; i < minuses; i++) {
                emit(NEGATE);
            }
        }

        /** A ONE that no - stands ahead of. */
        private void readPlain(int open) {
            if (token == A_NUMBER) {
                emit(value);
                next();
            } else if (token >= FIRST_NAME && token < FIRST_NAME + NAMES) {
                emit(FIRST_NAME - 1 - token);
                next();
            } else if (token == '(' && open < MOST_OPEN) {
                next();
                readEither(open + 1);
                expect(')');
            } else {
                fails();
            }
        }

        /** How many of this TOKEN stand here that may be open, one more with each: it goes on behind them. */
        private int passed(int wanted, int open) {
            int many = 0;
            for (int i = open; i < MOST_OPEN && token == wanted; i++) {
                next();
                many++;
            }
            return many;
        }

        private void expect(int wanted) {
            if (token != wanted) {
                fails();
            } else {
                next();
            }
        }

        /** Only the first FAULT counts: no token can stand behind it. */
        private void fails() {
            if (fault == NONE) {
                fault = tokenFrom;
            }
            token = NO_TOKEN;
        }

        private void emit(int c) {
            if (codes >= 0 && codes < TAPE_SIZE) {
                code[codes] = c;
                codes++;
            }
        }

        private int byteAt(int i) {
            return i >= 0 && i < size && i < TAPE_SIZE ? tape[i] : NONE;
        }

        private void next() {
            for (int i = 0; i < TAPE_SIZE && (byteAt(place) == ' ' || byteAt(place) == '\n'); i++) {
                place++;
            }
            tokenFrom = place;
            int first = byteAt(place);
            if (first == NONE) {
                token = AT_END;
            } else if (isLetter(first)) {
                readWord();
            } else if (isDigit(first)) {
                readNumber();
            } else {
                place++;
                token = isSign(first) ? first : NO_TOKEN;
            }
        }

        private static boolean isLetter(int c) {
            return c >= 'a' && c <= 'z';
        }

        private static boolean isDigit(int c) {
            return c >= '0' && c <= '9';
        }

        private static boolean isSign(int c) {
            return c == '(' || c == ')' || c == ';' || c == '+' || c == '-' || c == '*' || c == '<' || c == '=';
        }

        private void readNumber() {
            int digits = 0;
            value = 0;
            for (int i = 0; i < TAPE_SIZE && isDigit(byteAt(place)); i++) {
                digits++;
                value = digits > MOST_DIGITS ? value : value * 10 + byteAt(place) - '0';
                place++;
            }
            token = digits > MOST_DIGITS ? NO_TOKEN : A_NUMBER;
        }

        private void readWord() {
            for (int i = 0; i < TAPE_SIZE && isLetter(byteAt(place)); i++) {
                place++;
            }
            token = stands("plays") ? FIRST_PART + PLAYS_PART
                : stands("throws") ? FIRST_PART + THROWS_PART
                : stands("tires") ? FIRST_PART + TIRES_PART
                : stands("or") ? KEY_OR
                : stands("and") ? KEY_AND
                : stands("not") ? KEY_NOT
                : stands("strong") ? FIRST_NAME + STRONG
                : stands("has") ? FIRST_NAME + HAS
                : stands("number") ? FIRST_NAME + NUMBER
                : stands("theirs") ? FIRST_NAME + THEIRS
                : stands("round") ? FIRST_NAME + ROUND
                : stands("stake") ? FIRST_NAME + STAKE
                : NO_TOKEN;
        }

        /** Is the WORD that was just read this one? */
        private boolean stands(String word) {
            if (tokenFrom < 0 || place > TAPE_SIZE || place - tokenFrom != word.length()) {
                return false;
            }
            for (int i = 0; i < word.length(); i++) {
                if (tape[tokenFrom + i] != word.charAt(i)) {
                    return false;
                }
            }
            return true;
        }
    }

    /** A row of numbers, or a missing one. */
    private static final class Sheet {
        final int[] items = new int[MOST_ITEMS];
        int sort = NO_ROW;
        int size = 0;

        boolean isMissing() {
            return sort == NO_ROW;
        }

        void becomes(int itsSort, int n) {
            sort = itsSort;
            size = bounded(n, 0, MOST_ITEMS);
            for (int i = 0; i < MOST_ITEMS; i++) {
                items[i] = 0;
            }
        }

        /** Do n items from i on all stand in the row? */
        boolean holds(int i, int n) {
            return i >= 0 && n >= 0 && n <= size && i <= size - n;
        }

        int item(int i) {
            return i >= 0 && i < size && i < MOST_ITEMS ? items[i] : 0;
        }

        void put(int i, int v) {
            if (i >= 0 && i < size && i < MOST_ITEMS) {
                items[i] = sort == BYTES ? (byte) v : sort == SHORTS ? (short) v : v;
            }
        }
    }
}
