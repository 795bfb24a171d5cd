/** The boundaries of promises 9 to 12: game, evening, play, robin; a test for each sentence. */
public final class GamesEdgeTests {
    public static void main(String[] args) {
        games();
        gamesOfPower();
        gamesMoveThings();
        gamesAreWon();
        gamesTire();
        gamesTireInDraws();
        gamesAreRefused();
        evenings();
        eveningsHave();
        eveningsTellGames();
        eveningsAreRefused();
        plays();
        playsAreRefused();
        robins();
        robinsOrder();
        robinsApart();
        robinsRing();
        Edge.end("GamesEdgeTests", 9, 12);
    }

    // ---- 9 game

    private static void games() {
        Edge.test(9, "A GAME, truly: who won (NONE: a draw).", x -> {
            Edge.plain(x, 50, 49, 50);
            Edge.due("one more", x.game(0, 1), 0);
            Edge.due("one less", x.game(1, 0), 0);
            Edge.due("as much", x.game(0, 2), Edge.NONE);
            Edge.due("truly", x.count(2), 3);
        });
        Edge.test(9, "BAD: no such two, one and the same", x -> {
            for (int many = 0; many <= 6; many++) {
                Edge.due("one and the same", x.game(0, 0), Edge.BAD);
                Edge.due("the last, one and the same", x.game(many - 1, many - 1), Edge.BAD);
                Edge.due("the last, and the first not there", x.game(many - 1, many), Edge.BAD);
                Edge.due("the first not there, and the last", x.game(many, many - 1), Edge.BAD);
                Edge.due("below", x.game(0, -1), Edge.BAD);
                Edge.due("below", x.game(-1, 0), Edge.BAD);
                x.player(Edge.WIDOW, 0);
            }
            Edge.due("far off", x.game(Edge.MAX, 0), Edge.BAD);
            Edge.due("far off", x.game(0, Edge.MIN), Edge.BAD);
            Edge.due("the last two", x.game(4, 5), Edge.NONE);
            Edge.due("the first two", x.game(1, 0), Edge.NONE);
        });
        Edge.test(9, "STATE: ROUND is 999.", x -> {
            Edge.plain(x, 50, 49);
            x.set(0, 0, 998);
            Edge.due("ROUND is 998", x.game(0, 1), 0);
            Edge.due("ROUND is 999", x.game(0, 1), Edge.STATE);
            Edge.due("ROUND is 999", x.game(1, 0), Edge.STATE);
            Edge.due("no such two ahead of it", x.game(0, 2), Edge.BAD);
            Edge.due("one and the same ahead of it", x.game(1, 1), Edge.BAD);
            Edge.due("ROUND", x.count(2), 999);
            Edge.due("WON", x.told(0, 5), 1);
        });
        Edge.test(9, "ROUND is 1 more.", x -> {
            Edge.come(x, 0, 0);
            Edge.due("a draw", x.game(0, 1), Edge.NONE);
            Edge.due("from 0", x.count(2), 1);
            x.set(0, 0, 998);
            x.game(0, 1);
            Edge.due("to 999", x.count(2), 999);
        });
    }

    private static void gamesOfPower() {
        Edge.test(9, "who THROWS has POWER -1, else what one PLAYS", x -> {
            Edge.rule(x, "plays 0;throws number;tires 0;");
            x.player(0, 0);
            x.player(0, 1);
            x.player(0, 9);
            Edge.due("0 is more than to throw", x.game(0, 1), 0);
            Edge.due("in either order", x.game(1, 0), 0);
            Edge.due("both throw", x.game(1, 2), Edge.NONE);
        });
        Edge.test(9, "who has more wins (all told ahead)", x -> {
            Edge.rule(x, "plays has*10+number;throws 0;tires has;");
            x.player(0, 1);
            x.player(0, 0);
            Edge.due("by one", x.game(0, 1), 0);
            Edge.due("none had any", x.told(1, 3), 50);
            Edge.due("by all", x.game(0, 1), 1);
            Edge.due("who won had 8 ahead", x.told(1, 3), 42);
            Edge.due("who lost had none ahead", x.told(0, 3), 50);
        });
    }

    private static void gamesMoveThings() {
        Edge.test(9, "The loser HAS, too, all THINGS that the winner HAS, and all of THE HALL", x -> {
            Edge.plain(x, 50, 49);
            x.game(0, 1);
            Edge.due("a full HALL", x.told(1, 6), 255);
            Edge.due("THE HALL", x.count(1), 0);
            x.game(0, 1);
            Edge.due("an empty HALL, and a winner who HAS nothing", x.told(1, 6), 255);
            Edge.give(x, 0, Edge.ALL_THINGS);
            x.game(1, 0);
            Edge.due("a winner who HAS all", x.told(1, 6), 255);
            Edge.due("the winner", x.told(0, 6), 0);
            Edge.give(x, 0, 0);
            Edge.give(x, Edge.HALL, 7);
            x.game(0, 1);
            Edge.due("of each some", x.told(1, 6), 255);
            Edge.come(x, 0);
            Edge.give(x, 2, 3);
            x.game(0, 1);
            Edge.due("but a third's", x.told(1, 6), 247);
            Edge.due("a third's stays", x.told(2, 6), 8);
        });
        Edge.test(9, "with like POWER it is a draw: all that both have is THE HALL's", x -> {
            Edge.plain(x, 50, 50, 50);
            Edge.due("both have nothing", x.game(0, 1), Edge.NONE);
            Edge.due("a full HALL", x.count(1), 8);
            Edge.give(x, 0, Edge.ALL_THINGS);
            Edge.due("the one HAS all", x.game(0, 1), Edge.NONE);
            Edge.due("a full HALL", x.count(1), 8);
            Edge.give(x, 1, Edge.ALL_THINGS);
            Edge.due("the other HAS all", x.game(0, 1), Edge.NONE);
            Edge.due("a full HALL", x.count(1), 8);
            Edge.give(x, 0, 0, 1);
            Edge.give(x, 1, 2);
            Edge.give(x, 2, 3, 4, 5, 6, 7);
            Edge.due("an empty HALL", x.game(0, 1), Edge.NONE);
            Edge.due("what both had", x.count(1), 3);
            Edge.due("none", x.told(0, 6) + x.told(1, 6), 0);
            Edge.due("a third's stays", x.told(2, 6), 248);
        });
    }

    private static void gamesAreWon() {
        Edge.test(9, "Who won WON once more (999 at most).", x -> {
            Edge.plain(x, 50, 49, 50);
            Edge.due("a draw", x.game(0, 2), Edge.NONE);
            Edge.due("nobody won", x.told(0, 5) + x.told(2, 5), 0);
            Edge.row(x, 0, Edge.BYTES, Edge.many(40, 1));
            for (int i = 0; i < 25; i++) {
                x.set(0, 0, 0);
                x.play(0);
                Edge.due("WON", x.told(0, 5), Math.min(999, 40 * (i + 1)));
            }
            Edge.due("not above", x.game(0, 1), 0);
            Edge.due("WON", x.told(0, 5), 999);
            Edge.due("who lost", x.told(1, 5), 0);
        });
        Edge.test(9, "WON so often (0 .. 999; 0)", x -> {
            Edge.plain(x, 50, 49);
            Edge.row(x, 0, Edge.BYTES, Edge.many(37, 1));
            for (int i = 0; i < 27; i++) {
                x.set(0, 0, 0);
                x.play(0);
            }
            Edge.due("999 is reached", x.told(0, 5), 999);
            x.game(1, 0);
            Edge.due("999 stays", x.told(0, 5), 999);
            Edge.due("0 stays", x.told(1, 5), 0);
        });
    }

    /** How STRONG both are behind a game of a 0 who was so STRONG and a 1 who was so STRONG, each tiring by so much. */
    private static void strong(int tires, int one, int other, int oneThen, int otherThen) {
        for (int turn = 0; turn < 2; turn++) {
            LoserKeepsTheBoard x = new LoserKeepsTheBoard();
            Edge.rule(x, "plays strong;throws 0;tires 0" + (tires < 0 ? tires : "+" + tires) + ";");
            Edge.come(x, 0, 0);
            x.set(3, 0, one);
            x.set(3, 1, other);
            x.game(turn, 1 - turn);
            Edge.due("tires " + tires + ", the one was " + one, x.told(0, 3), oneThen);
            Edge.due("tires " + tires + ", the other was " + other, x.told(1, 3), otherThen);
        }
    }

    private static void gamesTire() {
        Edge.test(9, "Both are less STRONG by what they TIRE (0 .. 99, else the bound", x -> {
            strong(1, 0, 1, 0, 0);
            strong(1, 2, 99, 1, 98);
            strong(9, 9, 10, 0, 1);
            strong(9, 8, 0, 0, 0);
            strong(-1, 98, 99, 99, 99);
            strong(-1, 97, 0, 98, 1);
            strong(-9, 90, 91, 99, 99);
            strong(-9, 89, 99, 98, 99);
            strong(0, 0, 99, 0, 99);
        });
        Edge.test(9, "told ahead. ROUND is 1 more", x -> {
            Edge.rule(x, "plays number;throws 0;tires theirs-strong+round+stake;");
            x.player(0, 1);
            x.player(0, 0);
            x.set(3, 0, 40);
            x.set(3, 1, 44);
            Edge.give(x, 0, Edge.ALL_THINGS);
            Edge.due("game", x.game(0, 1), 0);
            Edge.due("4 more, ROUND 0, stake 0", x.told(0, 3), 36);
            Edge.due("4 less, ROUND 0, stake 8", x.told(1, 3), 40);
        });
    }

    private static void gamesTireInDraws() {
        Edge.test(9, "in a draw nobody won", x -> {
            Edge.rule(x, "plays 0;throws 0;tires 9;");
            Edge.come(x, Edge.MASTER, Edge.CHAMPION, Edge.WIDOW);
            Edge.due("a draw", x.game(0, 1), Edge.NONE);
            Edge.due("a MASTER tires", x.told(0, 3), 41);
            Edge.due("a CHAMPION tires", x.told(1, 3), 40);
            Edge.due("a draw", x.game(2, 0), Edge.NONE);
            Edge.due("a MASTER tires", x.told(0, 3), 32);
            Edge.due("a WIDOW does not", x.told(2, 3), 50);
            Edge.due("WON", x.told(0, 5) + x.told(1, 5) + x.told(2, 5), 0);
        });
        Edge.test(9, "what they TIRE", x -> {
            Edge.rule(x, "plays number;throws 0;tires 9;");
            x.player(Edge.MASTER, 1);
            x.player(Edge.CHAMPION, 0);
            Edge.due("the MASTER wins", x.game(0, 1), 0);
            Edge.due("he does not tire", x.told(0, 3), 50);
            Edge.due("the CHAMPION tires by 10", x.told(1, 3), 40);
            x.set(2, 1, 9);
            Edge.due("the CHAMPION wins", x.game(0, 1), 1);
            Edge.due("the MASTER tires by 9", x.told(0, 3), 41);
            Edge.due("the CHAMPION tires by 1", x.told(1, 3), 39);
        });
    }

    private static void gamesAreRefused() {
        Edge.test(9, "they change nothing", x -> {
            Edge.changesNothing(Edge.BAD, Edge::lively, y -> y.game(0, 0), y -> y.game(0, 4), y -> y.game(4, 0),
                y -> y.game(-1, 0), y -> y.game(0, -1));
            Edge.changesNothing(Edge.STATE, y -> {
                Edge.lively(y);
                y.set(0, 0, 999);
            }, y -> y.game(0, 1), y -> y.game(3, 2));
        });
    }

    // ---- 10 evening

    private static void evenings() {
        Edge.test(10, "AN EVENING that a SHEET tells, in thought", x -> {
            Edge.plain(x, 50, 49);
            Edge.row(x, 0, Edge.BYTES);
            Edge.due("no games", x.evening(0, 6), 8);
            Edge.due("no draws", x.evening(0, 7), 0);
            Edge.row(x, 0, Edge.INTS, Edge.many(40, 10));
            Edge.due("forty games", x.evening(0, 1), 8);
            Edge.due("no draws", x.evening(0, 7), 0);
            Edge.due("ROUND is as before", x.count(2), 0);
            Edge.due("THE HALL is as before", x.count(1), 8);
            Edge.due("WON is as before", x.told(0, 5), 0);
        });
        Edge.test(10, "ROUND is 1 more.", x -> {
            Edge.rule(x, "plays round=number*111+1;throws 0;tires 0;");
            x.player(0, 9);
            x.player(0, 0);
            x.set(0, 0, 999);
            Edge.row(x, 0, Edge.BYTES, 1, 1);
            Edge.due("in thought it goes on above 999", x.evening(0, 7), 1);
            Edge.due("at ROUND 1000 0 wins", x.evening(0, 1), 8);
            Edge.due("truly ROUND is as before", x.count(2), 999);
        });
        Edge.test(10, "AN EVENING: games, told as 10 times the one, and the other, one behind the other", x -> {
            Edge.plain(x, 10, 20, 30);
            Edge.row(x, 0, Edge.BYTES, 1, 12);
            Edge.due("0 lost ahead of the game of 1 and 2", x.evening(0, 0), 8);
            Edge.row(x, 0, Edge.BYTES, 12, 1);
            Edge.due("1 lost, then won against 0", x.evening(0, 0), 8);
            Edge.row(x, 0, Edge.BYTES, 12, 20);
            Edge.due("1 lost, 0 then to 2 who HAS none", x.evening(0, 1), 8);
        });
    }

    private static void eveningsHave() {
        Edge.test(10, "how many THINGS PLAYER what HAS at last (what 0 .. 5)", x -> {
            Edge.row(x, 0, Edge.BYTES);
            for (int many = 0; many <= 6; many++) {
                Edge.due("the first not there", x.evening(0, many), many == 6 ? 8 : Edge.BAD);
                Edge.due("the last what", x.evening(0, 5), many == 6 ? 0 : Edge.BAD);
                if (many > 0) {
                    Edge.due("the last there", x.evening(0, many - 1), 0);
                }
                x.player(0, 0);
            }
            Edge.give(x, 5, Edge.ALL_THINGS);
            Edge.due("all", x.evening(0, 5), 8);
            Edge.give(x, 0, 0);
            Edge.due("one", x.evening(0, 0), 1);
        });
        Edge.test(10, "how many are in THE HALL (6)", x -> {
            Edge.plain(x, 50, 50, 40);
            Edge.row(x, 0, Edge.BYTES, 2);
            Edge.due("none", x.evening(0, 6), 0);
            Edge.row(x, 0, Edge.BYTES, 2, 1);
            Edge.due("none of two who have nothing", x.evening(0, 6), 0);
            Edge.give(x, 1, 4);
            Edge.row(x, 0, Edge.BYTES, 1);
            Edge.due("all", x.evening(0, 6), 8);
        });
        Edge.test(10, "how many games are draws (7)", x -> {
            Edge.plain(x, 50, 50, 40);
            Edge.row(x, 0, Edge.BYTES);
            Edge.due("of no games", x.evening(0, 7), 0);
            Edge.row(x, 0, Edge.BYTES, Edge.many(40, 1));
            Edge.due("of forty", x.evening(0, 7), 40);
            x.cell(0, 39, 2);
            Edge.due("the last is none", x.evening(0, 7), 39);
        });
        Edge.test(10, "who HAS most (8; of like ones the first; NONE: nobody HAS any)", x -> {
            Edge.row(x, 0, Edge.BYTES);
            Edge.due("nobody at all", x.evening(0, 8), Edge.NONE);
            Edge.come(x, 0, 0, 0, 0, 0, 0);
            Edge.due("nobody HAS any", x.evening(0, 8), Edge.NONE);
            Edge.give(x, 5, 0);
            Edge.due("the last HAS one", x.evening(0, 8), 5);
            Edge.give(x, 3, 1);
            Edge.due("of like ones the first", x.evening(0, 8), 3);
            Edge.give(x, 5, 2);
            Edge.due("one more", x.evening(0, 8), 5);
            Edge.give(x, 0, 3, 4);
            Edge.due("of like ones the first", x.evening(0, 8), 0);
            Edge.give(x, 1, Edge.ALL_THINGS);
            Edge.due("who HAS all", x.evening(0, 8), 1);
        });
    }

    private static void eveningsTellGames() {
        Edge.test(10, "BAD: it tells what is no game", x -> {
            Edge.come(x, 0, 0, 0, 0, 0, 0);
            x.sheet(0, Edge.INTS, 1);
            for (int item = -120; item <= 120; item++) {
                x.cell(0, 0, item);
                boolean isGame = item > 0 && item < 60 && item / 10 != item % 10 && item % 10 < 6;
                Edge.due("item " + item, x.evening(0, 6) == Edge.BAD ? 0 : 1, isGame ? 1 : 0);
            }
        });
        Edge.test(10, "it tells what is no game", x -> {
            Edge.come(x, 0, 0);
            Edge.row(x, 0, Edge.INTS, Edge.many(40, 1));
            Edge.due("forty games", x.evening(0, 6), 8);
            for (int item : new int[] {0, 11, 2, 20, 12, -1, -10, 101, 110, Edge.MIN, Edge.MAX}) {
                x.cell(0, 39, item);
                Edge.due("the last is none: " + item, x.evening(0, 6), Edge.BAD);
            }
            x.cell(0, 39, 10);
            Edge.due("the last is one", x.evening(0, 6), 8);
            x.cell(0, 0, 0);
            Edge.due("the first is none", x.evening(0, 6), Edge.BAD);
        });
    }

    private static void eveningsAreRefused() {
        Edge.test(10, "BAD: SHEET, what, no such PLAYER; -11; BAD", x -> {
            for (int sheet : new int[] {-1, 4, Edge.MIN, Edge.MAX}) {
                Edge.due("SHEET " + sheet, x.evening(sheet, 6), Edge.BAD);
            }
            for (int what : new int[] {-1, 9, Edge.MIN, Edge.MAX}) {
                Edge.due("what " + what + " of a missing one", x.evening(0, what), Edge.BAD);
            }
            Edge.due("nobody, of a missing one", x.evening(0, 0), Edge.BAD);
            Edge.come(x, 0, 0);
            Edge.due("no such PLAYER, of a missing one", x.evening(0, 2), Edge.BAD);
            for (int sheet = 0; sheet < 4; sheet++) {
                for (int what = 0; what < 9; what++) {
                    Edge.due("missing", x.evening(sheet, what), what > 1 && what < 6 ? Edge.BAD : Edge.NOTHING);
                }
            }
            Edge.row(x, 3, Edge.SHORTS, 1);
            Edge.due("the last SHEET", x.evening(3, 8), Edge.NONE);
            Edge.due("the last SHEET, no such PLAYER", x.evening(3, 2), Edge.BAD);
            Edge.row(x, 0, Edge.SHORTS, 0);
            Edge.due("the first SHEET, no game", x.evening(0, 8), Edge.BAD);
        });
        Edge.test(10, "they change nothing", x -> {
            Edge.changesNothing(Edge.BAD, Edge::lively, y -> y.evening(4, 6), y -> y.evening(1, 6),
                y -> y.evening(0, 4));
            Edge.changesNothing(Edge.NOTHING, Edge::lively, y -> y.evening(3, 6));
            Edge.changesNothing(0, Edge::lively, y -> y.evening(0, 7));
        });
    }

    // ---- 11 play

    private static void plays() {
        Edge.test(11, "It, truly: how many games are draws.", x -> {
            Edge.plain(x, 50, 50);
            Edge.row(x, 0, Edge.BYTES);
            Edge.due("no games", x.play(0), 0);
            Edge.due("ROUND", x.count(2), 0);
            Edge.row(x, 0, Edge.BYTES, Edge.many(40, 1));
            Edge.due("forty draws", x.play(0), 40);
            Edge.due("ROUND", x.count(2), 40);
            x.set(3, 0, 51);
            Edge.due("no draws", x.play(0), 0);
            Edge.due("WON", x.told(0, 5), 40);
            Edge.due("the loser HAS", x.told(1, 6), 255);
        });
        Edge.test(11, "STATE: ROUND would be above 999.", x -> {
            Edge.plain(x, 50, 49);
            Edge.row(x, 0, Edge.BYTES, Edge.many(40, 1));
            Edge.row(x, 1, Edge.BYTES);
            Edge.row(x, 2, Edge.BYTES, 1);
            x.set(0, 0, 960);
            Edge.due("1000", x.play(0), Edge.STATE);
            Edge.due("none was played", x.count(2), 960);
            Edge.due("none was won", x.told(0, 5), 0);
            x.set(0, 0, 959);
            Edge.due("999", x.play(0), 0);
            Edge.due("ROUND", x.count(2), 999);
            Edge.due("one more", x.play(2), Edge.STATE);
            Edge.due("no games", x.play(1), 0);
            Edge.due("ROUND", x.count(2), 999);
        });
    }

    private static void playsAreRefused() {
        Edge.test(11, "BAD: SHEET; -11; BAD: it tells what is no game; STATE", x -> {
            for (int sheet : new int[] {-1, 4, Edge.MIN, Edge.MAX}) {
                Edge.due("SHEET " + sheet, x.play(sheet), Edge.BAD);
            }
            x.set(0, 0, 999);
            for (int sheet = 0; sheet < 4; sheet++) {
                Edge.due("missing", x.play(sheet), Edge.NOTHING);
            }
            Edge.row(x, 0, Edge.BYTES, 1);
            Edge.due("nobody to play it", x.play(0), Edge.BAD);
            Edge.come(x, 0);
            Edge.due("one alone", x.play(0), Edge.BAD);
            Edge.come(x, 0);
            Edge.due("above 999", x.play(0), Edge.STATE);
            Edge.row(x, 3, Edge.INTS, 1, 0);
            Edge.due("no game, and above 999", x.play(3), Edge.BAD);
        });
        Edge.test(11, "BAD: it tells what is no game", x -> {
            Edge.plain(x, 50, 49, 48, 47, 46, 45);
            for (int item : new int[] {0, 11, 55, 6, 60, 66, -1, -10, -12, 100, 101, Edge.MIN, Edge.MAX}) {
                Edge.row(x, 0, Edge.INTS, 1, item);
                Edge.due("item " + item, x.play(0), Edge.BAD);
            }
            Edge.due("none was played", x.count(2), 0);
            Edge.row(x, 0, Edge.INTS, 54, 45, 1, 10);
            Edge.due("the first and the last games", x.play(0), 0);
        });
        Edge.test(11, "they change nothing", x -> {
            Edge.changesNothing(Edge.BAD, y -> {
                Edge.lively(y);
                Edge.row(y, 0, Edge.BYTES, 1, 12, 11);
            }, y -> y.play(0), y -> y.play(1), y -> y.play(4), y -> y.play(-1));
            Edge.changesNothing(Edge.NOTHING, Edge::lively, y -> y.play(3));
            Edge.changesNothing(Edge.STATE, y -> {
                Edge.lively(y);
                y.set(0, 0, 997);
            }, y -> y.play(0));
        });
    }

    // ---- 12 robin

    private static void robins() {
        Edge.test(12, "what PLAYER what HAS at last (what 0 .. 5; bits)", x -> {
            for (int many = 0; many <= 6; many++) {
                Edge.due("the first not there", x.robin(many), many == 6 ? 255 : Edge.BAD);
                Edge.due("the last what", x.robin(5), many == 6 ? 0 : Edge.BAD);
                if (many > 0) {
                    Edge.due("the last there", x.robin(many - 1), 0);
                }
                x.player(Edge.WIDOW, 0);
            }
            Edge.rule(x, "plays 0;throws number;tires 0;");
            x.set(2, 5, 1);
            Edge.due("who loses last of all HAS all", x.robin(5), 255);
            Edge.due("nothing", x.robin(0), 0);
            Edge.due("in thought", x.count(2), 0);
        });
        Edge.test(12, "THE HALL (6; bits)", x -> {
            Edge.due("nobody plays", x.robin(6), 255);
            Edge.plain(x, 50);
            Edge.due("one alone", x.robin(6), 255);
            Edge.give(x, 0, 0, 7);
            Edge.due("one alone keeps his own", x.robin(6), 126);
            Edge.due("his own", x.robin(0), 129);
            Edge.come(x, 0);
            Edge.due("a draw", x.robin(6), 255);
            x.set(3, 1, 49);
            Edge.due("none", x.robin(6), 0);
        });
        Edge.test(12, "BAD: what, no such PLAYER.", x -> {
            for (int what : new int[] {-1, 9, 0, 5, Edge.MIN, Edge.MAX}) {
                Edge.due("what " + what, x.robin(what), Edge.BAD);
            }
            Edge.come(x, 0, 0, 0, 0, 0);
            for (int what : new int[] {-1, 9, 5, Edge.MIN, Edge.MAX}) {
                Edge.due("what " + what, x.robin(what), Edge.BAD);
            }
            Edge.due("the last what", x.robin(8), 0);
            Edge.due("the first what", x.robin(0), 0);
        });
    }

    private static void robinsOrder() {
        Edge.test(12, "each with each once, 0 with 1, 0 with 2, .., 1 with 2", x -> {
            Edge.rule(x, "plays (round+number)*(strong+has)-theirs;throws has<round;tires number-round;");
            Edge.come(x, 0, 1, 2, 3, 4, 0);
            Edge.row(x, 0, Edge.BYTES, 1, 2, 3, 4, 5, 12, 13, 14, 15, 23, 24, 25, 34, 35, 45);
            for (int turn = 0; turn < 10; turn++) {
                for (int i = 0; i < 6; i++) {
                    x.set(2, i, (turn * 3 + i * 7) % 10);
                    x.set(3, i, (turn * 17 + i * 29) % 50);
                    x.set(1, i, turn % (i + 1));
                }
                for (int what = 0; what <= 6; what++) {
                    Edge.due("turn " + turn + ", what " + what, Integer.bitCount(x.robin(what)), x.evening(0, what));
                }
            }
        });
        Edge.test(12, "ROUND ROBIN, in thought", x -> {
            Edge.changesNothing(Edge.NONE, y -> Edge.plain(y, 30, 20, 10), y -> y.robin(7));
            Edge.changesNothing(0, Edge::lively, y -> y.robin(8), y -> y.robin(0) & 0, y -> y.robin(6) & 0);
            Edge.changesNothing(Edge.BAD, Edge::lively, y -> y.robin(4), y -> y.robin(9), y -> y.robin(-1));
        });
    }

    private static void robinsApart() {
        Edge.test(12, "KEEP APART (7; NONE)", x -> {
            Edge.due("nobody", x.robin(7), Edge.NONE);
            Edge.plain(x, 50);
            Edge.due("one alone", x.robin(7), Edge.NONE);
            Edge.join(x, 49);
            Edge.due("two, and no draw", x.robin(7), Edge.NONE);
        });
        Edge.test(12, "(10 times the lesser, and the other)", x -> {
            Edge.plain(x, 50, 50);
            Edge.give(x, 0, 0);
            Edge.due("the first two", x.robin(7), 1);
            LoserKeepsTheBoard y = new LoserKeepsTheBoard();
            Edge.plain(y, 60, 50, 40, 30, 20, 20);
            Edge.due("the last two", y.robin(7), 45);
        });
        Edge.test(12, "would leave fewest THINGS in THE HALL behind it, if fewer than so", x -> {
            Edge.plain(x, 50, 50);
            Edge.due("as many", x.robin(7), Edge.NONE);
            Edge.give(x, 1, 7);
            Edge.due("one fewer", x.robin(7), 1);
            Edge.come(x, 0);
            Edge.due("all three drawn, as many", x.robin(7), Edge.NONE);
        });
        // PLAYER 3 alone tires: behind his game with 0 he draws with 1, and then with 2, who has all. Without any of
        // these three games that last draw does not come.
        Edge.test(12, "if fewer than so; of like ones the first; NONE", x -> {
            Edge.rule(x, "plays strong;throws 0;tires number;");
            int[] strong = {14, 12, 11, 13};
            Edge.come(x, 0, 0, 0, 0);
            for (int i = 0; i < 4; i++) {
                x.set(3, i, strong[i]);
            }
            x.set(2, 3, 1);
            Edge.due("with all games all is left", x.robin(6), 255);
            Edge.due("0 with 3", x.robin(7), 3);
        });
    }

    private static void robinsRing() {
        Edge.test(12, "RING (8)", x -> {
            Edge.due("nobody", x.robin(8), 0);
            Edge.rule(x, "plays 0<theirs-strong and theirs-strong<4 or 3<strong-theirs;throws 0;tires 0;");
            int[] rings = {0, 0, 0, 0, 0, 3, 8};
            for (int many = 1; many <= 6; many++) {
                Edge.join(x, many);
                Edge.due("of " + many, x.robin(8), rings[many]);
            }
        });
        Edge.test(12, "(a less than b and c; how many) of whom a beats b, b beats c, c beats a", x -> {
            Edge.rule(x, "plays number=theirs;throws 0;tires 0;");
            Edge.come(x, 0, 0, 0);
            for (int i = 0; i < 3; i++) {
                x.set(3, i, i);
                x.set(2, i, (i + 1) % 3);
            }
            Edge.due("0 beats 1, 1 beats 2, 2 beats 0", x.robin(8), 1);
            for (int i = 0; i < 3; i++) {
                x.set(2, i, (i + 2) % 3);
            }
            Edge.due("0 beats 2, 2 beats 1, 1 beats 0", x.robin(8), 1);
            for (int i = 0; i < 3; i++) {
                x.set(2, i, 9);
                Edge.due("without one of these", x.robin(8), 0);
                x.set(2, i, (i + 2) % 3);
            }
            Edge.due("with all of them", x.robin(8), 1);
        });
        Edge.test(12, "as all is now", x -> {
            Edge.rule(x, "plays strong=theirs-1 or strong=theirs+2;throws has;tires 1;");
            Edge.come(x, 0, 0, 0);
            x.set(3, 1, 51);
            x.set(3, 2, 52);
            Edge.due("nobody HAS any", x.robin(8), 1);
            Edge.give(x, 1, 0);
            Edge.due("1 throws", x.robin(8), 0);
        });
    }
}
