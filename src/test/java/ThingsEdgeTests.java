/** The boundaries of promises 1 to 5: a new object, set, player, told, asks; a test for each sentence. */
public final class ThingsEdgeTests {
    public static void main(String[] args) {
        newObject();
        sets();
        setsOfPlayers();
        playersCome();
        playersAreRefused();
        tells();
        tellsHaving();
        plays();
        playsByRound();
        playsWithinBounds();
        throwing();
        throwingByKind();
        tires();
        tiresByKind();
        asks();
        asksOutcomes();
        Edge.end("ThingsEdgeTests", 1, 5);
    }

    // ---- 1 a new object

    private static void newObject() {
        Edge.test(1, "No PLAYERS; all THINGS in THE HALL.", x -> {
            Edge.due("PLAYERS", x.count(0), 0);
            Edge.due("in THE HALL", x.count(1), 8);
            Edge.due("bits in THE HALL", x.robin(6), 255);
            Edge.due("no PLAYER 0", x.told(0, 4), Edge.NONE_SUCH);
            Edge.due("no PLAYER 0", x.taken(0, 0), Edge.NOTHING);
            Edge.due("no game", x.game(0, 1), Edge.BAD);
        });
        Edge.test(1, "in THE HALL (NONE, at first)", x -> {
            for (int thing : Edge.ALL_THINGS) {
                Edge.due("place of " + thing, x.told(thing, 1), Edge.NONE);
            }
        });
        Edge.test(1, "ROUND (0 .. 999; 0 at first)", x -> {
            Edge.due("ROUND", x.told(0, 0), 0);
            Edge.due("ROUND", x.count(2), 0);
        });
        Edge.test(1, "TEXT 0, at first THE RULE", x -> {
            Edge.due("TEXTS", x.count(3), 1);
            Edge.due("THE RULE", x.count(5), 0);
            Edge.due("THE TAPE", x.count(4), 0);
        });
        Edge.test(1, "or missing (as all are at first)", x -> {
            for (int sheet = 0; sheet < 4; sheet++) {
                Edge.due("cell of " + sheet, x.cell(sheet, 0, 0), Edge.NOTHING);
            }
        });
        Edge.test(1, "NONE = -1, BAD = -2, STATE = -3, FULL = -4", x -> {
            Edge.due("NONE", LoserKeepsTheBoard.NONE, -1);
            Edge.due("BAD", LoserKeepsTheBoard.BAD, -2);
            Edge.due("STATE", LoserKeepsTheBoard.STATE, -3);
            Edge.due("FULL", LoserKeepsTheBoard.FULL, -4);
        });
        Edge.test(1, "NO = -4611686018427387904L",
            x -> Edge.due("NO", LoserKeepsTheBoard.NO, -4611686018427387904L));
        Edge.test(1, "An object is used for at most 512 calls after it has been made", x -> {
            Edge.due("call 1", x.player(0, 0), 0);
            Edge.due("call 2", x.player(0, 0), 1);
            for (int call = 3; call <= 511; call++) {
                Edge.due("call " + call, x.game(call % 2, 1 - call % 2) >= Edge.NONE ? 1 : 0, 1);
            }
            Edge.due("call 512", x.count(2), 509);
        });
    }

    // ---- 2 set

    private static void sets() {
        Edge.test(2, "ROUND (what 0; of does not matter)", x -> {
            Edge.due("of below all", x.set(0, Edge.MIN, 5), 0);
            Edge.due("of -1", x.set(0, -1, 6), 5);
            Edge.due("of above all", x.set(0, Edge.MAX, 7), 6);
            Edge.due("ROUND", x.count(2), 7);
        });
        Edge.test(2, "ROUND (0 .. 999; 0 at first)", x -> {
            Edge.due("999", x.set(0, 0, 999), 0);
            for (int v : new int[] {1000, -1, Edge.MIN, Edge.MAX}) {
                Edge.due("ROUND " + v, x.set(0, 0, v), Edge.NONE_SUCH);
                Edge.due("ROUND stays", x.count(2), 999);
            }
            Edge.due("0", x.set(0, 0, 0), 999);
            Edge.due("ROUND", x.count(2), 0);
        });
        Edge.test(2, "THINGS 0 .. 7", x -> {
            Edge.come(x, 0);
            Edge.due("the first", x.set(1, 0, 0), Edge.HALL);
            Edge.due("the last", x.set(1, 7, 0), Edge.HALL);
            for (int thing : new int[] {-1, 8, 31, 32, 39, -32, Edge.MIN, Edge.MAX}) {
                Edge.due("THING " + thing, x.set(1, thing, 0), Edge.NONE_SUCH);
                Edge.due("THING " + thing + " to THE HALL", x.set(1, thing, Edge.NONE), Edge.NONE_SUCH);
            }
            Edge.due("bits", x.told(0, 6), 129);
        });
        Edge.test(2, "where a THING is (1; NONE: THE HALL)", x -> {
            for (int many = 0; many <= 6; many++) {
                Edge.due("the first who is not there", x.set(1, 3, many), Edge.NONE_SUCH);
                Edge.due("below NONE", x.set(1, 3, -2), Edge.NONE_SUCH);
                if (many > 0) {
                    Edge.due("the last who is there", x.set(1, 3, many - 1), Edge.HALL);
                    Edge.due("to THE HALL", x.set(1, 3, Edge.NONE), many - 1);
                }
                Edge.due("from THE HALL to THE HALL", x.set(1, 3, Edge.NONE), Edge.HALL);
                x.player(0, 0);
            }
            Edge.due("far above", x.set(1, 3, Edge.MAX), Edge.NONE_SUCH);
            Edge.due("far below", x.set(1, 3, Edge.MIN), Edge.NONE_SUCH);
            Edge.due("THE HALL", x.count(1), 8);
        });
    }

    private static void setsOfPlayers() {
        Edge.test(2, "NUMBER (2), STRONG (3) of a PLAYER becomes v: what it was", x -> {
            for (int many = 0; many <= 6; many++) {
                for (int what = 2; what <= 3; what++) {
                    for (int of : new int[] {many, -1, 6, Edge.MIN, Edge.MAX}) {
                        Edge.due(what + " of " + of, x.set(what, of, 1), Edge.NONE_SUCH);
                    }
                }
                if (many > 0) {
                    Edge.due("NUMBER of the last", x.set(2, many - 1, 5), 8);
                    Edge.due("STRONG of the last", x.set(3, many - 1, 5), 50);
                    Edge.due("NUMBER, as it was", x.set(2, many - 1, 5), 5);
                    Edge.due("STRONG, as it was", x.set(3, many - 1, 5), 5);
                }
                x.player(0, 8);
            }
        });
        Edge.test(2, "a NUMBER (0 .. 9)", x -> {
            Edge.come(x, 0);
            Edge.due("9", x.set(2, 0, 9), 0);
            for (int v : new int[] {10, -1, Edge.MIN, Edge.MAX}) {
                Edge.due("NUMBER " + v, x.set(2, 0, v), Edge.NONE_SUCH);
                Edge.due("NUMBER stays", x.told(0, 2), 9);
            }
            Edge.due("0", x.set(2, 0, 0), 9);
            Edge.due("NUMBER", x.told(0, 2), 0);
        });
        Edge.test(2, "are so STRONG (0 .. 99; 50 as one comes)", x -> {
            Edge.come(x, 0);
            Edge.due("99", x.set(3, 0, 99), 50);
            for (int v : new int[] {100, -1, Edge.MIN, Edge.MAX}) {
                Edge.due("STRONG " + v, x.set(3, 0, v), Edge.NONE_SUCH);
                Edge.due("STRONG stays", x.told(0, 3), 99);
            }
            Edge.due("0", x.set(3, 0, 0), 99);
            Edge.due("STRONG", x.told(0, 3), 0);
        });
        Edge.test(2, "-1000: what, of, v.", x -> {
            Edge.come(x, 0);
            for (int what : new int[] {-1, 4, 5, 6, 7, Edge.MIN, Edge.MAX}) {
                Edge.due("what " + what, x.set(what, 0, 0), Edge.NONE_SUCH);
            }
            for (int what = 0; what <= 3; what++) {
                Edge.due("what " + what + ", v", x.set(what, 0, 1000), Edge.NONE_SUCH);
                Edge.due("what " + what + ", of", x.set(what, 9, 0), what == 0 ? 0 : Edge.NONE_SUCH);
            }
        });
        Edge.test(2, "they change nothing", x -> Edge.changesNothing(Edge.NONE_SUCH, Edge::lively,
            y -> y.set(0, 0, 1000), y -> y.set(0, 0, -1), y -> y.set(1, 8, 0), y -> y.set(1, -1, 0),
            y -> y.set(1, 0, 4), y -> y.set(1, 0, -2), y -> y.set(2, 4, 0), y -> y.set(2, 0, 10),
            y -> y.set(2, 0, -1), y -> y.set(3, 4, 0), y -> y.set(3, 0, 100),
            y -> y.set(3, -1, 0), y -> y.set(4, 0, 0), y -> y.set(-1, 0, 0)));
    }

    // ---- 3 player

    private static void playersCome() {
        Edge.test(3, "PLAYERS (6 at most, numbered from 0)", x -> {
            for (int one = 0; one < 6; one++) {
                Edge.due("player", x.player(0, 0), one);
                Edge.due("PLAYERS", x.count(0), one + 1);
            }
            Edge.due("a seventh", x.player(0, 0), Edge.FULL);
            Edge.due("an eighth", x.player(5, 9), Edge.FULL);
            Edge.due("PLAYERS", x.count(0), 6);
        });
        Edge.test(3, "have a KIND: 0 PLAYER", x -> {
            Edge.due("the last", x.player(5, 0), 0);
            for (int kind : new int[] {6, -1, Edge.MIN, Edge.MAX}) {
                Edge.due("KIND " + kind, x.player(kind, 0), Edge.BAD);
            }
            Edge.due("the first", x.player(0, 0), 1);
            Edge.due("KIND", x.told(0, 4), 5);
            Edge.due("KIND", x.told(1, 4), 0);
        });
        Edge.test(3, "a NUMBER (0 .. 9)", x -> {
            Edge.due("the last", x.player(0, 9), 0);
            for (int number : new int[] {10, -1, Edge.MIN, Edge.MAX}) {
                Edge.due("NUMBER " + number, x.player(0, number), Edge.BAD);
            }
            Edge.due("the first", x.player(0, 0), 1);
            Edge.due("NUMBER", x.told(0, 2), 9);
            Edge.due("NUMBER", x.told(1, 2), 0);
        });
        Edge.test(3, "are so STRONG (0 .. 99; 50 as one comes)", x -> {
            for (int kind = 0; kind < 6; kind++) {
                x.player(kind, 9);
                Edge.due("STRONG", x.told(kind, 3), 50);
            }
        });
    }

    private static void playersAreRefused() {
        Edge.test(3, "WON so often (0 .. 999; 0)", x -> {
            Edge.come(x, 0, 0);
            x.image();
            Edge.come(x, 0);
            x.set(3, 2, 99);
            Edge.give(x, 2, 0);
            x.game(2, 1);
            Edge.give(x, 2, 0, 1);
            Edge.due("WON", x.told(2, 5), 1);
            x.back();
            Edge.due("another comes at its place", x.player(3, 4), 2);
            Edge.due("STRONG", x.told(2, 3), 50);
            Edge.due("WON", x.told(2, 5), 0);
            Edge.due("HAS", x.told(2, 6), 0);
        });
        Edge.test(3, "BAD; FULL.", x -> {
            Edge.come(x, 0, 0, 0, 0, 0, 0);
            Edge.due("KIND below", x.player(-1, 0), Edge.BAD);
            Edge.due("KIND above", x.player(6, 0), Edge.BAD);
            Edge.due("NUMBER below", x.player(0, -1), Edge.BAD);
            Edge.due("NUMBER above", x.player(0, 10), Edge.BAD);
            Edge.due("all is as it should be", x.player(5, 9), Edge.FULL);
        });
        Edge.test(3, "they change nothing", x -> {
            Edge.changesNothing(Edge.BAD, Edge::lively, y -> y.player(6, 0), y -> y.player(-1, 0),
                y -> y.player(0, 10), y -> y.player(0, -1));
            Edge.changesNothing(Edge.FULL, y -> {
                Edge.lively(y);
                Edge.come(y, 4, 5);
            }, y -> y.player(0, 0), y -> y.player(5, 9));
        });
    }

    // ---- 4 told

    private static void tells() {
        Edge.test(4, "What 0 .. 3 as of set()", x -> {
            x.set(0, 0, 999);
            for (int of : new int[] {0, -1, 8, Edge.MIN, Edge.MAX}) {
                Edge.due("ROUND, of " + of, x.told(of, 0), 999);
            }
            x.player(0, 9);
            x.set(3, 0, 99);
            Edge.due("NUMBER", x.told(0, 2), 9);
            Edge.due("STRONG", x.told(0, 3), 99);
        });
        Edge.test(4, "THINGS 0 .. 7", x -> {
            Edge.come(x, 0);
            Edge.give(x, 0, Edge.ALL_THINGS);
            Edge.due("the first", x.told(0, 1), 0);
            Edge.due("the last", x.told(7, 1), 0);
            for (int thing : new int[] {-1, 8, 31, 32, 39, -32, Edge.MIN, Edge.MAX}) {
                Edge.due("THING " + thing, x.told(thing, 1), Edge.NONE_SUCH);
            }
        });
        Edge.test(4, "4 KIND, 5 WON, 6 what one HAS (bits), 7 how many these are", x -> {
            for (int many = 0; many <= 6; many++) {
                for (int what = 2; what <= 7; what++) {
                    for (int of : new int[] {many, -1, 6, Edge.MIN, Edge.MAX}) {
                        Edge.due(what + " of " + of, x.told(of, what), Edge.NONE_SUCH);
                    }
                }
                if (many > 0) {
                    Edge.due("KIND of the last", x.told(many - 1, 4), many - 1);
                    Edge.due("NUMBER of the last", x.told(many - 1, 2), many);
                }
                x.player(many, many + 1);
            }
        });
        Edge.test(4, "-1000: none such.", x -> {
            Edge.come(x, 0);
            for (int what : new int[] {-1, 8, Edge.MIN, Edge.MAX}) {
                Edge.due("what " + what, x.told(0, what), Edge.NONE_SUCH);
            }
            Edge.due("the last what", x.told(0, 7), 0);
            Edge.due("the first what", x.told(0, 0), 0);
        });
        Edge.test(4, "they change nothing", x -> Edge.changesNothing(Edge.NONE_SUCH, Edge::lively,
            y -> y.told(8, 1), y -> y.told(-1, 1), y -> y.told(4, 2), y -> y.told(0, 8), y -> y.told(0, -1)));
    }

    private static void tellsHaving() {
        Edge.test(4, "6 what one HAS (bits)", x -> {
            Edge.come(x, 0, 0);
            Edge.due("none", x.told(1, 6), 0);
            Edge.give(x, 1, 0);
            Edge.due("the first", x.told(1, 6), 1);
            Edge.give(x, Edge.HALL, 0);
            Edge.give(x, 1, 7);
            Edge.due("the last", x.told(1, 6), 128);
            Edge.give(x, 1, Edge.ALL_THINGS);
            Edge.due("all", x.told(1, 6), 255);
            Edge.give(x, 0, 7);
            Edge.due("all but the last", x.told(1, 6), 127);
        });
        Edge.test(4, "7 how many these are", x -> {
            Edge.come(x, 0);
            for (int thing : Edge.ALL_THINGS) {
                Edge.due("so many", x.told(0, 7), thing);
                Edge.give(x, 0, thing);
            }
            Edge.due("all", x.told(0, 7), 8);
        });
    }

    // ---- 5 asks: what one plays

    private static void powers(LoserKeepsTheBoard x, String what, int... powers) {
        for (int one = 0; one < powers.length; one++) {
            Edge.due(what + ", KIND " + x.told(one, 4), x.asks(one, one == 0 ? 1 : 0, 0), powers[one]);
        }
    }

    private static void playsOf(int kind, int[][] powers) {
        for (int[] power : powers) {
            LoserKeepsTheBoard x = new LoserKeepsTheBoard();
            Edge.rule(x, "plays " + power[0] + Edge.REST);
            x.player(kind, 9);
            x.player(Edge.PLAYER, 0);
            x.set(0, 0, 8);
            Edge.give(x, 0, 0);
            Edge.due("plays " + power[0], x.asks(0, 1, 0), power[1]);
        }
    }

    private static void plays() {
        Edge.test(5, "MASTER: twice a PLAYER's", x -> playsOf(Edge.MASTER, new int[][] {{0, 0}, {1, 2}, {99, 198}}));
        Edge.test(5, "BOY: half (cut) of a PLAYER's",
            x -> playsOf(Edge.BOY, new int[][] {{0, 0}, {1, 0}, {2, 1}, {3, 1}, {98, 49}, {99, 49}}));
        Edge.test(5, "Quotients are cut toward 0",
            x -> playsOf(Edge.GROOM, new int[][] {{1, 0}, {3, 1}, {97, 48}, {99, 49}}));
        Edge.test(5, "WIDOW: 0. THROWS", x -> playsOf(Edge.WIDOW, new int[][] {{0, 0}, {1, 0}, {99, 0}}));
        Edge.test(5, "CHAMPION: NUMBER more than a MASTER, if one HAS nothing, else as a MASTER", x -> {
            Edge.rule(x, "plays 10;throws 0;tires 0;");
            x.player(Edge.CHAMPION, 9);
            x.player(Edge.PLAYER, 0);
            Edge.due("HAS nothing", x.asks(0, 1, 0), 29);
            Edge.give(x, 0, 0);
            Edge.due("HAS one", x.asks(0, 1, 0), 20);
            Edge.give(x, 0, Edge.ALL_THINGS);
            Edge.due("HAS all", x.asks(0, 1, 0), 20);
            Edge.give(x, Edge.HALL, Edge.ALL_THINGS);
            x.set(2, 0, 0);
            Edge.due("NUMBER 0", x.asks(0, 1, 0), 20);
        });
    }

    private static void playsByRound() {
        Edge.test(5, "GROOM: as a BOY, and 50 more, if ROUND modulo 10 is NUMBER", x -> {
            Edge.rule(x, "plays 11;throws 0;tires 0;");
            x.player(Edge.GROOM, 0);
            x.player(Edge.GROOM, 9);
            int[][] rounds = {{0, 55, 5}, {1, 5, 5}, {8, 5, 5}, {9, 5, 55}, {10, 55, 5}, {11, 5, 5}, {90, 55, 5},
                {99, 5, 55}, {100, 55, 5}, {990, 55, 5}, {998, 5, 5}, {999, 5, 55}};
            for (int[] round : rounds) {
                x.set(0, 0, round[0]);
                Edge.due("NUMBER 0 in ROUND " + round[0], x.asks(0, 1, 0), round[1]);
                Edge.due("NUMBER 9 in ROUND " + round[0], x.asks(0, 1, 1), round[2]);
            }
        });
    }

    private static void playsWithinBounds() {
        Edge.test(5, "plays (0 .. 99, else the bound)", x -> {
            x.player(Edge.PLAYER, 0);
            x.player(Edge.MASTER, 0);
            String[] told = {"0-1", "0", "99", "100", "-9999*9999*20", "9999*9999*20", "9999*9999*30"};
            int[] powers = {0, 0, 99, 99, 0, 99, 0};
            for (int i = 0; i < 5; i++) {
                Edge.rule(x, "plays " + told[i] + Edge.REST);
                Edge.due(told[i], x.asks(0, 1, 0), powers[i]);
                Edge.due("twice " + told[i], x.asks(0, 1, 1), 2 * powers[i]);
            }
            for (int i = 5; i < 7; i++) {
                LoserKeepsTheBoard y = new LoserKeepsTheBoard();
                Edge.rule(y, "plays " + told[i] + Edge.REST);
                Edge.come(y, 0, 0);
                Edge.due(told[i], y.asks(0, 1, 0), powers[i]);
            }
        });
        Edge.test(5, "(PLAYS 0 .. 999", x -> {
            for (int kind = 0; kind < 6; kind++) {
                x.player(kind, 9);
            }
            x.set(0, 0, 999);
            Edge.rule(x, "plays 9999;throws 0;tires 0;");
            powers(x, "the most", 99, 198, 49, 207, 99, 0);
            for (int kind = 0; kind < 6; kind++) {
                x.set(2, kind, 0);
            }
            Edge.rule(x, "plays -9999;throws 0;tires 0;");
            powers(x, "the fewest", 0, 0, 0, 0, 0, 0);
            for (int kind = 0; kind < 6; kind++) {
                x.set(2, kind, 9);
            }
            powers(x, "the fewest, with NUMBER 9", 0, 0, 0, 9, 50, 0);
            Edge.rule(x, "plays -1;throws 0;tires 0;");
            powers(x, "one below 0, with NUMBER 9", 0, 0, 0, 9, 50, 0);
            Edge.rule(x, "plays 100;throws 0;tires 0;");
            powers(x, "one above 99", 99, 198, 49, 207, 99, 0);
        });
    }

    // ---- 5 asks: whether one throws

    private static void throwing() {
        Edge.test(5, "THROWS (throws telling yes, if it isn't 0)", x -> {
            Edge.come(x, 0, 0);
            String[] told = {"0", "1", "-1", "8192*8192*32", "8192*8192*64"};
            for (String throwsTelling : told) {
                Edge.rule(x, "plays 5;throws " + throwsTelling + ";tires 0;");
                boolean isYes = !throwsTelling.equals("0") && !throwsTelling.endsWith("64");
                Edge.due("throws " + throwsTelling, x.asks(0, 1, 0), isYes ? -1 : 5);
            }
        });
        Edge.test(5, "PLAYER: if yes", x -> throwsWith(Edge.PLAYER, -1, -1, -1, -1, 10, 10));
        Edge.test(5, "MASTER: if yes, and one HAS fewer than 4", x -> throwsWith(Edge.MASTER, -1, -1, 20, 20, 20, 20));
        Edge.test(5, "BOY: never", x -> throwsWith(Edge.BOY, 5, 5, 5, 5, 5, 5));
        Edge.test(5, "GROOM: as a BOY; WIDOW: if yes", x -> {
            throwsWith(Edge.GROOM, 5, 5, 5, 5, 5, 5);
            throwsWith(Edge.WIDOW, -1, -1, -1, -1, 0, 0);
        });
    }

    /** POWER where throws tells yes and one HAS 0, 3, 4, 8, then where it tells no and one HAS 0, 8; the other none. */
    private static void throwsWith(int kind, int... powers) {
        LoserKeepsTheBoard x = new LoserKeepsTheBoard();
        x.player(kind, 1);
        x.player(Edge.PLAYER, 0);
        Edge.rule(x, "plays 10;throws 1;tires 0;");
        Edge.rule(x, "plays 10;throws 0;tires 0;");
        int[] has = {0, 3, 4, 8, 0, 8};
        for (int i = 0; i < 6; i++) {
            x.force(i < 4 ? 1 : 2);
            for (int thing : Edge.ALL_THINGS) {
                Edge.give(x, thing < has[i] ? 0 : Edge.HALL, thing);
            }
            Edge.due("KIND " + kind + " HAS " + has[i], x.asks(0, 1, 0), powers[i]);
        }
    }

    private static void throwingByKind() {
        Edge.test(5, "CHAMPION: as a MASTER, or if the other one HAS any", x -> {
            throwsWith(Edge.CHAMPION, -1, -1, 20, 20, 21, 20);
            Edge.rule(x, "plays 10;throws 0;tires 0;");
            x.player(Edge.CHAMPION, 0);
            Edge.come(x, 0, 0);
            Edge.due("the other HAS none", x.asks(0, 1, 0), 20);
            Edge.give(x, 2, 0);
            Edge.due("a third HAS one", x.asks(0, 1, 0), 20);
            Edge.give(x, 1, 7);
            Edge.due("the other HAS one", x.asks(0, 1, 0), -1);
            Edge.give(x, 0, 1, 2, 3, 4, 5, 6);
            Edge.due("the other HAS one, the CHAMPION more than 4", x.asks(0, 1, 0), -1);
            Edge.give(x, 1, Edge.ALL_THINGS);
            Edge.due("the other HAS all", x.asks(0, 1, 0), -1);
        });
        Edge.test(5, "who THROWS has POWER -1", x -> {
            Edge.rule(x, "plays 99;throws 1;tires 0;");
            Edge.come(x, Edge.PLAYER, Edge.WIDOW);
            Edge.due("the one", x.asks(0, 1, 0), -1);
            Edge.due("the other", x.asks(0, 1, 1), -1);
            Edge.due("a draw", x.asks(0, 1, 4), Edge.NONE);
        });
    }

    // ---- 5 asks: what a game takes out of one

    private static void tiresOf(int kind, int[][] tires) {
        for (int[] tire : tires) {
            LoserKeepsTheBoard x = new LoserKeepsTheBoard();
            Edge.rule(x, "plays 1;throws 0;tires 0-" + (9 - tire[0]) + "+9;");
            Edge.come(x, kind, 0);
            Edge.due("tires " + tire[0] + ", won", x.asks(0, 1, 2), tire[1]);
            Edge.due("tires " + tire[0] + ", not won", x.asks(0, 1, 3), tire[2]);
        }
    }

    private static void tires() {
        Edge.test(5, "throws, tires (-9 .. 9, else the bound)", x -> tiresOf(Edge.PLAYER,
            new int[][] {{-10, -9, -9}, {-9, -9, -9}, {-8, -8, -8}, {0, 0, 0}, {8, 8, 8}, {9, 9, 9}, {10, 9, 9}}));
        Edge.test(5, "An E is an int (32 bits, wrapping)", x -> {
            Edge.come(x, 0, 0);
            String[] told = {"8192*8192*32", "8192*8192*32-1", "-(8192*8192*32)", "8192*8192*64+7"};
            int[] tires = {-9, 9, -9, 7};
            for (int i = 0; i < told.length; i++) {
                Edge.rule(x, "plays 1;throws 0;tires " + told[i] + ";");
                Edge.due(told[i], x.asks(0, 1, 2), tires[i]);
            }
        });
        Edge.test(5, "TIRES -99 .. 99, else the bound.)", x -> {
            Edge.come(x, 0, 1, 2, 3, 4, 5);
            Edge.rule(x, "plays 1;throws 0;tires 9999;");
            Edge.rule(x, "plays 1;throws 0;tires -9999;");
            int[][] most = {{9, 0, -9, 1, -12, 0}, {-9, 0, 9, 1, 6, 0}};
            int[][] others = {{9, 9, -9, 10, -12, 0}, {-9, -9, 9, -8, 6, 0}};
            for (int text = 0; text < 2; text++) {
                x.force(text + 1);
                for (int one = 0; one < 6; one++) {
                    Edge.due("won, KIND " + one, x.asks(one, one == 0 ? 1 : 0, 2), most[text][one]);
                    Edge.due("not won, KIND " + one, x.asks(one, one == 0 ? 1 : 0, 3), others[text][one]);
                }
            }
        });
    }

    private static void tiresByKind() {
        Edge.test(5, "MASTER: 0, if one won, else as a PLAYER",
            x -> tiresOf(Edge.MASTER, new int[][] {{-9, 0, -9}, {0, 0, 0}, {9, 0, 9}}));
        Edge.test(5, "BOY: 0 less a PLAYER's",
            x -> tiresOf(Edge.BOY, new int[][] {{-10, 9, 9}, {-9, 9, 9}, {0, 0, 0}, {9, -9, -9}, {10, -9, -9}}));
        Edge.test(5, "CHAMPION: 1 more than a MASTER",
            x -> tiresOf(Edge.CHAMPION, new int[][] {{-9, 1, -8}, {-1, 1, 0}, {0, 1, 1}, {9, 1, 10}}));
        Edge.test(5, "GROOM: as a BOY, 3 less",
            x -> tiresOf(Edge.GROOM, new int[][] {{-9, 6, 6}, {-3, 0, 0}, {0, -3, -3}, {9, -12, -12}}));
        Edge.test(5, "3 less; WIDOW: 0", x -> tiresOf(Edge.WIDOW, new int[][] {{-9, 0, 0}, {0, 0, 0}, {9, 0, 0}}));
    }

    // ---- 5 asks: the call

    private static void asks() {
        Edge.test(5, "-1000: no such two, one and the same, what.", x -> {
            for (int many = 0; many <= 6; many++) {
                Edge.due("one and the same", x.asks(0, 0, 0), Edge.NONE_SUCH);
                Edge.due("the last, and the first not there", x.asks(many - 1, many, 0), Edge.NONE_SUCH);
                Edge.due("the first not there, and the last", x.asks(many, many - 1, 0), Edge.NONE_SUCH);
                Edge.due("below", x.asks(0, -1, 0), Edge.NONE_SUCH);
                Edge.due("below", x.asks(-1, 0, 0), Edge.NONE_SUCH);
                x.player(Edge.WIDOW, 0);
            }
            Edge.due("far off", x.asks(Edge.MAX, 0, 0), Edge.NONE_SUCH);
            Edge.due("far off", x.asks(0, Edge.MIN, 0), Edge.NONE_SUCH);
            for (int what : new int[] {-1, 6, Edge.MIN, Edge.MAX}) {
                Edge.due("what " + what, x.asks(0, 1, what), Edge.NONE_SUCH);
            }
            Edge.due("the first what of the last two", x.asks(4, 5, 0), -1);
            Edge.due("the last what of the last two", x.asks(5, 4, 5), 0);
        });
        Edge.test(5, "what the one TIRES, had one won (2), not won (3)", x -> {
            Edge.rule(x, "plays strong;throws 0;tires number-has;");
            x.player(Edge.MASTER, 8);
            x.player(Edge.MASTER, 5);
            Edge.give(x, 1, 0);
            Edge.due("0, won", x.asks(0, 1, 2), 0);
            Edge.due("0, not won", x.asks(0, 1, 3), 8);
            Edge.due("1, won", x.asks(1, 0, 2), 0);
            Edge.due("1, not won", x.asks(1, 0, 3), 4);
        });
    }

    private static void asksOutcomes() {
        Edge.test(5, "they change nothing", x -> {
            Edge.changesNothing(Edge.NONE_SUCH, Edge::lively, y -> y.asks(0, 0, 0), y -> y.asks(0, 4, 4),
                y -> y.asks(-1, 0, 5), y -> y.asks(0, 1, 6), y -> y.asks(0, 1, -1));
            Edge.changesNothing(0, Edge::lively, y -> y.asks(0, 1, 5) & 0, y -> y.asks(3, 2, 4) & 0);
        });
        Edge.test(5, "who would win (4; NONE: a draw)", x -> {
            Edge.plain(x, 50, 49, 50, 51);
            Edge.due("one more", x.asks(0, 1, 4), 0);
            Edge.due("as much", x.asks(0, 2, 4), Edge.NONE);
            Edge.due("one less", x.asks(0, 3, 4), 3);
            x.set(3, 0, 0);
            x.set(3, 1, 99);
            Edge.due("0 with 99", x.asks(0, 1, 4), 1);
            Edge.due("99 with 0", x.asks(1, 0, 4), 1);
        });
        Edge.test(5, "how many THINGS the one would HAVE then (5)", x -> {
            Edge.plain(x, 60, 40, 40);
            Edge.due("the loser, of a full HALL", x.asks(1, 0, 5), 8);
            Edge.due("the winner", x.asks(0, 1, 5), 0);
            Edge.due("a draw of those who have nothing", x.asks(1, 2, 5), 0);
            Edge.give(x, 0, Edge.ALL_THINGS);
            Edge.due("the loser, all of the winner's", x.asks(1, 0, 5), 8);
            Edge.due("the winner who had all", x.asks(0, 1, 5), 0);
            Edge.give(x, 1, Edge.ALL_THINGS);
            Edge.due("the loser who had all", x.asks(1, 0, 5), 8);
            Edge.due("a draw, the one had all", x.asks(1, 2, 5), 0);
            Edge.give(x, 2, 0);
            Edge.due("the loser, but what a third HAS", x.asks(1, 0, 5), 7);
            Edge.due("all is as before", x.told(1, 7), 7);
        });
    }
}
