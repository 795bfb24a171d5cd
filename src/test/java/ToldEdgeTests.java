/** The boundaries of promises 17 to 23: tells, film, drawn, chance, image, back, count; a test for each sentence. */
public final class ToldEdgeTests {
    public static void main(String[] args) {
        tellsOtherwise();
        tellsKinds();
        tellsStrong();
        tellsRounds();
        tellsTextsAndPlayers();
        tellsAreRefused();
        films();
        drawns();
        drawnsBySeed();
        chances();
        chancesBySeed();
        chancesAreRefused();
        images();
        backs();
        backsKeep();
        counts();
        Edge.end("ToldEdgeTests", 17, 23);
    }

    // ---- 17 tells

    private static void tellsOtherwise() {
        Edge.test(17, "the first that is otherwise (what 0; NONE)", x -> {
            Edge.plain(x, 11, 12, 13, 14, 15, 16);
            Edge.row(x, 0, Edge.INTS, 0, 11, 11, 11, 11, 11);
            Edge.due("none", x.tells(0, 0, 0), Edge.NONE);
            for (int i = 5; i >= 0; i--) {
                x.cell(0, i, i == 0 ? 1 : 10);
                Edge.due("the first", x.tells(0, 0, 0), i);
            }
            for (int other : new int[] {Edge.MIN, Edge.MAX, -1, 0, 12, 11 + 256, 11 + 65536}) {
                Edge.row(x, 0, Edge.INTS, 0, 11, 11, 11, 11, other);
                Edge.due("the last is told as " + other, x.tells(0, 0, 0), 5);
            }
        });
        Edge.test(17, "(against oneself: 0)", x -> {
            Edge.plain(x, 11, 12);
            Edge.row(x, 0, Edge.BYTES, 0, 11);
            Edge.due("0", x.tells(0, 0, 0), Edge.NONE);
            for (int item : new int[] {-1, 1, 11, 12}) {
                x.cell(0, 0, item);
                Edge.due("item " + item, x.tells(0, 0, 0), 0);
                for (int what = 1; what <= 8; what++) {
                    int none = what == 4 || what == 6 ? Edge.NONE : 0;
                    Edge.due("nothing makes it so: " + what, x.tells(0, 0, what), none);
                }
            }
        });
        Edge.test(17, "a SHEET tells the POWER of one against PLAYERS 0, 1, ..", x -> {
            Edge.rule(x, "plays 99;throws number=9;tires 0;");
            x.player(Edge.CHAMPION, 8);
            x.player(Edge.PLAYER, 9);
            Edge.row(x, 0, Edge.SHORTS, 0, 206);
            Edge.due("the most", x.tells(0, 0, 0), Edge.NONE);
            x.set(2, 0, 9);
            Edge.row(x, 0, Edge.BYTES, 0, -1);
            Edge.due("who THROWS", x.tells(0, 0, 0), Edge.NONE);
            Edge.row(x, 0, Edge.BYTES, -1, 0);
            Edge.due("who THROWS, the other one", x.tells(0, 1, 0), Edge.NONE);
        });
    }

    private static void tellsKinds() {
        Edge.test(17, "KINDS (bits 0 .. 5)", x -> {
            Edge.plain(x, 50);
            Edge.row(x, 0, Edge.BYTES, 0);
            Edge.due("all", x.tells(0, 0, 1), 63);
            Edge.join(x, 50);
            x.set(2, 0, 9);
            x.set(0, 0, 9);
            int[] powers = {50, 100, 25, 109, 75, 0};
            for (int kind = 0; kind < 6; kind++) {
                Edge.row(x, 0, Edge.SHORTS, 0, powers[kind]);
                Edge.due("KIND " + kind, x.tells(0, 0, 1), 1 << kind);
            }
            Edge.row(x, 0, Edge.SHORTS, 0, 51);
            Edge.due("none", x.tells(0, 0, 1), 0);
            Edge.due("all is as before", x.told(0, 4), Edge.PLAYER);
        });
        Edge.test(17, "NUMBERS (bits 0 .. 9)", x -> {
            Edge.rule(x, "plays number+1;throws 0;tires 0;");
            x.player(0, 5);
            Edge.row(x, 0, Edge.BYTES, 0);
            Edge.due("all", x.tells(0, 0, 2), 1023);
            x.player(0, 5);
            int[] powers = {0, 1, 2, 9, 10, 11};
            int[] bits = {0, 1, 2, 256, 512, 0};
            for (int i = 0; i < 6; i++) {
                Edge.row(x, 0, Edge.BYTES, 0, powers[i]);
                Edge.due("POWER " + powers[i], x.tells(0, 0, 2), bits[i]);
            }
            Edge.due("all is as before", x.told(0, 2), 5);
        });
    }

    /** How many (what) and the least (what + 1), where PLAYER 0 against 1 is told to have such a POWER. */
    private static void tell(LoserKeepsTheBoard x, int what, int power, int many, int least) {
        Edge.row(x, 0, Edge.SHORTS, 0, power);
        Edge.due("how many by " + power, x.tells(0, 0, what), many);
        Edge.due("the least by " + power, x.tells(0, 0, what + 1), least);
    }

    private static void tellsStrong() {
        Edge.test(17, "how STRONG (of 0 .. 99: how many, the least)", x -> {
            Edge.rule(x, "plays strong;throws 0;tires 0;");
            Edge.join(x, 50);
            Edge.row(x, 0, Edge.BYTES, 0);
            Edge.due("one alone: all", x.tells(0, 0, 3), 100);
            Edge.due("one alone: the least", x.tells(0, 0, 4), 0);
            Edge.join(x, 50);
            tell(x, 3, 0, 1, 0);
            tell(x, 3, 1, 1, 1);
            tell(x, 3, 98, 1, 98);
            tell(x, 3, 99, 1, 99);
            tell(x, 3, 100, 0, Edge.NONE);
            tell(x, 3, -1, 0, Edge.NONE);
            Edge.rule(x, "plays strong-1;throws 99<strong;tires 0;");
            tell(x, 3, 0, 2, 0);
            tell(x, 3, 98, 1, 99);
            tell(x, 3, 99, 0, Edge.NONE);
            tell(x, 3, -1, 0, Edge.NONE);
            Edge.rule(x, "plays 7;throws 0;tires 0;");
            tell(x, 3, 7, 100, 0);
            tell(x, 3, 8, 0, Edge.NONE);
            Edge.due("all is as before", x.told(0, 3), 50);
        });
        Edge.test(17, "STRONG: how many (3), the least (4; NONE)", x -> {
            Edge.rule(x, "plays 1;throws strong<40 or 89<strong;tires 0;");
            Edge.join(x, 50, 50);
            tell(x, 3, 1, 50, 40);
            tell(x, 3, -1, 50, 0);
            tell(x, 3, 2, 0, Edge.NONE);
        });
    }

    private static void tellsRounds() {
        Edge.test(17, "ROUNDS (of 0 .. 99: how many, the least)", x -> {
            Edge.rule(x, "plays round;throws 0;tires 0;");
            Edge.join(x, 50, 50);
            x.set(0, 0, 999);
            tell(x, 5, 0, 1, 0);
            tell(x, 5, 99, 1, 99);
            tell(x, 5, 98, 1, 98);
            Edge.rule(x, "plays round-1;throws 99<round;tires 0;");
            tell(x, 5, 0, 2, 0);
            tell(x, 5, 98, 1, 99);
            tell(x, 5, 99, 0, Edge.NONE);
            tell(x, 5, -1, 0, Edge.NONE);
            Edge.due("as it is now, in ROUND 999", x.tells(0, 0, 0), Edge.NONE);
            Edge.due("all is as before", x.count(2), 999);
        });
        Edge.test(17, "ROUNDS: how many (5), the least (6; NONE)", x -> {
            Edge.rule(x, "plays 20;throws 0;tires 0;");
            x.player(Edge.GROOM, 9);
            x.player(Edge.PLAYER, 0);
            tell(x, 5, 60, 10, 9);
            tell(x, 5, 10, 90, 0);
            tell(x, 5, 20, 0, Edge.NONE);
            x.set(2, 0, 0);
            tell(x, 5, 60, 10, 0);
            tell(x, 5, 10, 90, 1);
        });
    }

    private static void tellsTextsAndPlayers() {
        Edge.test(17, "TEXTS (bits), were they THE RULE, by which all would be so", x -> {
            Edge.join(x, 50, 50);
            Edge.give(x, 0, 0);
            Edge.row(x, 0, Edge.BYTES, 0, 50);
            for (int many = 1; many <= 6; many++) {
                Edge.due("all of " + many, x.tells(0, 0, 7), (1 << many) - 1);
                Edge.read(x, "plays 50;throws 0;tires 0;");
            }
            Edge.row(x, 0, Edge.BYTES, 0, 49);
            Edge.due("none", x.tells(0, 0, 7), 0);
            x.set(3, 0, 49);
            Edge.due("the first", x.tells(0, 0, 7), 1);
            Edge.row(x, 0, Edge.BYTES, 0, 50);
            Edge.due("all but the first", x.tells(0, 0, 7), 62);
            Edge.due("all is as before", x.count(5), 0);
        });
        Edge.test(17, "PLAYERS (bits) of whom it is so", x -> {
            Edge.come(x, Edge.WIDOW);
            Edge.rule(x, "plays strong;throws 0;tires 0;");
            Edge.row(x, 0, Edge.BYTES, 0);
            Edge.due("one alone", x.tells(0, 0, 8), 1);
            Edge.come(x, 5, 5, 5, 5, 5);
            Edge.row(x, 0, Edge.BYTES, 0, 0, 0, 0, 0, 0);
            Edge.due("all", x.tells(0, 3, 8), 63);
            Edge.row(x, 0, Edge.BYTES, 0, 0, 0, 0, 0, 7);
            Edge.due("none", x.tells(0, 5, 8), 0);
            LoserKeepsTheBoard y = new LoserKeepsTheBoard();
            Edge.plain(y, 50, 50, 60);
            Edge.row(y, 0, Edge.BYTES, 60, 60, 0);
            Edge.due("the last, whoever is asked of", y.tells(0, 0, 8), 4);
            Edge.row(y, 0, Edge.BYTES, 0, 50, 50);
            Edge.due("the first", y.tells(0, 2, 8), 1);
        });
    }

    private static void tellsAreRefused() {
        Edge.test(17, "BAD: SHEET, none such, what; -11; BAD", x -> {
            Edge.due("nobody", x.tells(0, 0, 0), Edge.BAD);
            Edge.join(x, 50, 50);
            for (int bad : new int[] {-1, 9, Edge.MIN, Edge.MAX}) {
                Edge.due("SHEET " + bad, x.tells(bad, 0, 0), Edge.BAD);
                Edge.due("none such, of a missing one", x.tells(0, bad, 0), Edge.BAD);
                Edge.due("what, of a missing one", x.tells(0, 0, bad), Edge.BAD);
            }
            Edge.due("SHEET 4", x.tells(4, 0, 0), Edge.BAD);
            Edge.due("the first not there, of a missing one", x.tells(0, 2, 0), Edge.BAD);
            for (int sheet = 0; sheet < 4; sheet++) {
                for (int what = 0; what <= 8; what++) {
                    Edge.due("missing", x.tells(sheet, 1, what), Edge.NOTHING);
                }
            }
            Edge.row(x, 3, Edge.BYTES, 9);
            Edge.due("the last not there, of too few", x.tells(3, 2, 0), Edge.BAD);
            Edge.row(x, 3, Edge.BYTES, 9, 9);
            Edge.due("the last of all", x.tells(3, 1, 8), 0);
        });
        Edge.test(17, "BAD: it doesn't tell as many as there are.", x -> {
            for (int many = 1; many <= 6; many++) {
                Edge.come(x, Edge.WIDOW);
                for (int size : new int[] {0, many - 1, many + 1, 40}) {
                    x.sheet(0, Edge.BYTES, size);
                    Edge.due(size + " of " + many, x.tells(0, 0, 8), Edge.BAD);
                }
                x.sheet(0, Edge.BYTES, many);
                Edge.due("as many", x.tells(0, 0, 8) >= 0 ? 1 : 0, 1);
            }
        });
        Edge.test(17, "they change nothing", x -> {
            Edge.changesNothing(Edge.BAD, Edge::lively, y -> y.tells(4, 0, 0), y -> y.tells(0, 4, 0),
                y -> y.tells(0, 0, 9), y -> y.tells(0, 0, 0));
            Edge.changesNothing(Edge.NOTHING, Edge::lively, y -> y.tells(3, 0, 0));
            for (int what = 0; what <= 8; what++) {
                int asked = what;
                Edge.changesNothing(0, Edge::lively, y -> y.tells(1, 0, asked) & 0);
            }
        });
    }

    // ---- 18 film

    private static void films() {
        Edge.test(18, "A SHEET truly becomes POWER of one against all PLAYERS (shorts): how many they are.", x -> {
            Edge.rule(x, "plays 99;throws number=1;tires 0;");
            x.player(Edge.CHAMPION, 9);
            x.sheet(0, Edge.BYTES, 40);
            Edge.due("one alone", x.film(0, 0), 1);
            Edge.due("a row of shorts", Edge.sortOf(x, 0), Edge.SHORTS);
            Edge.due("of one", Edge.sizeOf(x, 0), 1);
            x.player(Edge.PLAYER, 1);
            Edge.due("a missing one becomes", x.film(3, 0), 2);
            Edge.row(x, 1, Edge.SHORTS, 0, 207);
            Edge.due("0, and the most", x.tells(1, 0, 0), Edge.NONE);
            Edge.due("so it is", x.tells(3, 0, 0), Edge.NONE);
            Edge.due("whoever is the last", x.film(1, 1), 2);
            Edge.row(x, 2, Edge.SHORTS, -1, 0);
            Edge.due("it THROWS, and 0", x.tells(2, 1, 0), Edge.NONE);
            Edge.due("so it is", x.tells(1, 1, 0), Edge.NONE);
            Edge.come(x, 0, 0, 0, 0);
            Edge.due("six", x.film(1, 5), 6);
            Edge.due("of six", Edge.sizeOf(x, 1), 6);
            Edge.due("so it is", x.tells(1, 5, 0), Edge.NONE);
        });
        Edge.test(18, "BAD.", x -> {
            Edge.due("nobody", x.film(0, 0), Edge.BAD);
            Edge.come(x, 0, 0);
            for (int bad : new int[] {-1, 4, Edge.MIN, Edge.MAX}) {
                Edge.due("SHEET " + bad, x.film(bad, 0), Edge.BAD);
                Edge.due("PLAYER " + bad, x.film(0, bad), Edge.BAD);
            }
            Edge.due("the first not there", x.film(0, 2), Edge.BAD);
            Edge.due("still missing", Edge.sortOf(x, 0), -1);
            Edge.due("the last of all", x.film(3, 1), 2);
        });
        Edge.test(18, "they change nothing", x -> Edge.changesNothing(Edge.BAD, Edge::lively,
            y -> y.film(4, 0), y -> y.film(-1, 0), y -> y.film(0, 4), y -> y.film(3, -1)));
    }

    // ---- 19 drawn

    /** What one HAS at last, where each PLAYER is stronger than those ahead of him; by longs, not by ints. */
    private static int drawnByHand(long seed, int n, int many, int one) {
        int[] has = new int[many];
        int hall = 255;
        long z = seed & 0xFFFFFFFFL;
        for (int i = 0; i < n; i++) {
            z = (z * 1103515245L + 12345L) & 0xFFFFFFFFL;
            int first = (int) (z / 512 % many);
            int other = (int) ((first + 1 + z / 131072 % (many - 1)) % many);
            int loser = Math.min(first, other);
            has[loser] |= has[Math.max(first, other)] | hall;
            has[Math.max(first, other)] = 0;
            hall = 0;
        }
        return has[one];
    }

    private static void drawns() {
        Edge.test(19, "AN EVENING of n games (0 .. 60)", x -> {
            Edge.plain(x, 10, 20, 30);
            Edge.give(x, 2, 7);
            Edge.due("no games", x.drawn(0, 2, 0), 128);
            Edge.give(x, Edge.HALL, 7);
            for (int n = 1; n <= 60; n++) {
                Edge.due(n + " games", x.drawn(-5, 0, n), drawnByHand(-5, n, 3, 0));
            }
            for (int n : new int[] {-1, 61, Edge.MIN, Edge.MAX}) {
                Edge.due(n + " games", x.drawn(0, 0, n), Edge.BAD);
            }
            Edge.due("in thought", x.count(2), 0);
        });
        Edge.test(19, "(fewer than two: none)", x -> {
            Edge.due("nobody", x.drawn(1, 0, 60), Edge.BAD);
            Edge.plain(x, 10);
            Edge.give(x, 0, 0, 7);
            Edge.due("one alone", x.drawn(1, 0, 60), 129);
            Edge.join(x, 20);
            Edge.due("two", x.drawn(1, 0, 1), 255);
            Edge.due("two", x.drawn(1, 1, 60), 0);
        });
        Edge.test(19, "BAD: none such, n.", x -> {
            for (int many = 0; many <= 6; many++) {
                for (int one : new int[] {many, -1, 6, Edge.MIN, Edge.MAX}) {
                    Edge.due("PLAYER " + one, x.drawn(0, one, 1), Edge.BAD);
                }
                x.player(0, 0);
            }
            Edge.due("the last, no game", x.drawn(0, 5, 0), 0);
        });
        Edge.test(19, "they change nothing", x -> {
            Edge.changesNothing(Edge.BAD, Edge::lively, y -> y.drawn(0, 4, 1), y -> y.drawn(0, 0, 61),
                y -> y.drawn(0, 0, -1));
            Edge.changesNothing(0, Edge::lively, y -> y.drawn(7, 0, 60) & 0);
        });
    }

    private static void drawnsBySeed() {
        Edge.test(19, "z being z * 1103515245 + 12345 (an int; SEED at first)", x -> {
            Edge.plain(x, 0, 10, 20, 30, 40, 50);
            for (int seed : new int[] {Edge.MIN, Edge.MIN + 1, -65536, -1, 0, 1, 65535, Edge.MAX - 1, Edge.MAX}) {
                for (int n = 1; n <= 6; n++) {
                    for (int one = 0; one < 6; one++) {
                        Edge.due(seed + ", " + n, x.drawn(seed, one, n), drawnByHand(seed, n, 6, one));
                    }
                }
            }
        });
        Edge.test(19, "(z >>> 9) % many with the one 1 and (z >>> 17) % (many less 1) further on, round", x -> {
            Edge.plain(x, 0);
            for (int many = 2; many <= 6; many++) {
                Edge.join(x, 10 * many);
                for (int seed = -4; seed <= 4; seed++) {
                    for (int one = 0; one < many; one++) {
                        Edge.due(many + ", " + seed, x.drawn(seed, one, 3), drawnByHand(seed, 3, many, one));
                    }
                }
            }
        });
    }

    // ---- 20 chance

    private static void chance(LoserKeepsTheBoard x, int seed, int m, int one, int k, int above, int below) {
        String what = "seed " + seed + ", m " + m + ", " + one + " HAS " + k;
        Edge.due(what + ", above", x.chance(seed, m, one, k, 0), above);
        Edge.due(what + ", below", x.chance(seed, m, one, k, 1), below);
    }

    private static void chances() {
        Edge.test(20, "part 0 above, 1 below the line, in lowest terms", x -> {
            Edge.plain(x, 10, 20);
            chance(x, 0, 20, 0, 8, 1, 1);
            chance(x, 0, 1, 0, 8, 1, 1);
            chance(x, 0, 20, 1, 1, 0, 1);
            chance(x, 0, 1, 1, 1, 0, 1);
            chance(x, 0, 7, 1, 8, 0, 1);
        });
        Edge.test(20, "IN m seeds (1 .. 20)", x -> {
            Edge.plain(x, 10, 20, 30, 40);
            for (int m : new int[] {0, 21, -1, Edge.MIN, Edge.MAX}) {
                Edge.due("above, m " + m, x.chance(0, m, 0, 0, 0), Edge.NO);
                Edge.due("below, m " + m, x.chance(0, m, 0, 0, 1), Edge.NO);
            }
            for (int m = 1; m <= 20; m++) {
                chanceByHand(x, 40, m, 4, 1);
                chanceByHand(x, 77, m, 4, 0);
            }
        });
        Edge.test(20, "of these those by which one HAS k (0 .. 8) or more", x -> {
            Edge.plain(x, 10);
            Edge.give(x, 0, 0, 1, 2);
            for (int k = 0; k <= 8; k++) {
                chance(x, 5, 20, 0, k, k <= 3 ? 1 : 0, 1);
            }
            Edge.give(x, 0, Edge.ALL_THINGS);
            chance(x, 5, 20, 0, 8, 1, 1);
            for (int k : new int[] {-1, 9, Edge.MIN, Edge.MAX}) {
                Edge.due("k " + k, x.chance(5, 20, 0, k, 0), Edge.NO);
            }
        });
    }

    /** By how many of m seeds one of so many HAS all at last. */
    private static void chanceByHand(LoserKeepsTheBoard x, int seed, int m, int many, int one) {
        int above = 0;
        for (int i = 0; i < m; i++) {
            above += drawnByHand((long) seed + i, 6, many, one) == 255 ? 1 : 0;
        }
        int shared = 1;
        for (int factor = 2; factor <= m; factor++) {
            shared = above % factor == 0 && m % factor == 0 ? factor : shared;
        }
        chance(x, seed, m, one, 8, above / shared, m / shared);
    }

    private static void chancesBySeed() {
        Edge.test(20, "SEED and each 1 more (an int), 6 games", x -> {
            Edge.plain(x, 10, 20, 30, 40, 50, 60);
            for (int seed : new int[] {Edge.MAX, Edge.MAX - 9, Edge.MAX - 19, Edge.MIN, -10, -1, 0}) {
                for (int one = 0; one < 6; one++) {
                    chanceByHand(x, seed, 20, 6, one);
                    chanceByHand(x, seed, 12, 6, one);
                }
            }
        });
        Edge.test(20, "IN m seeds (1 .. 20), SEED and each 1 more", x -> {
            Edge.plain(x, 10);
            Edge.due("one alone plays no games", x.chance(Edge.MAX, 20, 0, 1, 0), 0);
            chance(x, Edge.MIN, 20, 0, 0, 1, 1);
        });
    }

    private static void chancesAreRefused() {
        Edge.test(20, "NO: m, none such, k, part.", x -> {
            for (int many = 0; many <= 6; many++) {
                for (int one : new int[] {many, -1, 6, Edge.MIN, Edge.MAX}) {
                    Edge.due("PLAYER " + one, x.chance(0, 1, one, 0, 0), Edge.NO);
                }
                x.player(0, 0);
            }
            for (int part : new int[] {-1, 2, Edge.MIN, Edge.MAX}) {
                Edge.due("part " + part, x.chance(0, 1, 0, 0, part), Edge.NO);
            }
            chance(x, 0, 1, 5, 0, 1, 1);
        });
        Edge.test(20, "they change nothing", x -> {
            Edge.changesNothing(Edge.NO, Edge::lively, y -> y.chance(0, 0, 0, 0, 0), y -> y.chance(0, 21, 0, 0, 0),
                y -> y.chance(0, 1, 4, 0, 0), y -> y.chance(0, 1, 0, 9, 0), y -> y.chance(0, 1, 0, 0, 2));
            Edge.changesNothing(0, Edge::lively, y -> y.chance(7, 20, 0, 1, 0) & 0);
        });
    }

    // ---- 21 image

    private static void images() {
        Edge.test(21, "AN IMAGE is kept: how many PLAYERS.", x -> {
            for (int many = 0; many <= 6; many++) {
                Edge.due("image", x.image(), many);
                Edge.come(x, many == 6 ? new int[] {} : new int[] {many});
                Edge.due("back", x.back(), many);
                Edge.due("PLAYERS", x.count(0), many);
                x.player(many, 0);
            }
        });
        Edge.test(21, "AN IMAGE is kept", x -> {
            Edge.come(x, 0, 0);
            x.image();
            x.set(0, 0, 5);
            Edge.give(x, 0, 0);
            Edge.due("another one", x.image(), 2);
            x.set(0, 0, 9);
            Edge.give(x, 1, Edge.ALL_THINGS);
            Edge.due("back", x.back(), 2);
            Edge.due("the last one counts", x.count(2), 5);
            Edge.due("the last one counts", x.told(0, 6), 1);
            x.game(0, 1);
            x.set(3, 0, 1);
            Edge.due("back once more", x.back(), 2);
            Edge.due("it is as it was", x.told(0, 6), 1);
            Edge.due("it is as it was", x.told(0, 3), 50);
        });
        Edge.test(21, "AN IMAGE keeps what is where, ROUND, NUMBERS, how STRONG all are, WON, THE RULE", x ->
            Edge.changesNothing(4, y -> {
                Edge.lively(y);
                y.image();
            }, y -> y.image(), y -> {
                y.set(0, 0, 999);
                y.set(2, 0, 0);
                y.set(3, 1, 99);
                y.force(0);
                y.set(0, 0, 0);
                y.game(0, 1);
                y.game(1, 2);
                y.game(2, 3);
                Edge.give(y, 0, Edge.ALL_THINGS);
                Edge.give(y, Edge.HALL, 5);
                y.player(5, 9);
                Edge.give(y, 4, 3);
                return y.back();
            }));
    }

    // ---- 22 back

    private static void backs() {
        Edge.test(22, "STATE: there is none.", x -> {
            Edge.due("of a new one", x.back(), Edge.STATE);
            Edge.come(x, 0);
            Edge.due("still none", x.back(), Edge.STATE);
            Edge.due("he stays", x.count(0), 1);
            x.image();
            Edge.due("there is one", x.back(), 1);
            Edge.due("there still is", x.back(), 1);
        });
        Edge.test(22, "(PLAYERS that came since go)", x -> {
            x.image();
            Edge.come(x, 0, 1, 2, 3, 4, 5);
            Edge.give(x, 5, Edge.ALL_THINGS);
            Edge.due("of nobody", x.back(), 0);
            Edge.due("PLAYERS", x.count(0), 0);
            Edge.due("what they had", x.count(1), 8);
            for (int one = 0; one < 6; one++) {
                Edge.due("gone", x.told(one, 4), Edge.NONE_SUCH);
            }
            Edge.due("one comes anew", x.player(5, 9), 0);
            Edge.due("of that KIND", x.told(0, 4), 5);
            Edge.due("he HAS none", x.told(0, 6), 0);
        });
        Edge.test(22, "they change nothing", x -> Edge.changesNothing(Edge.STATE, y -> {
            Edge.plain(y, 60, 50, 40);
            y.game(0, 1);
        }, y -> y.back()));
    }

    private static void backsKeep() {
        Edge.test(22, "All that it keeps is as in THE IMAGE: how many PLAYERS.", x -> {
            Edge.plain(x, 99, 0);
            Edge.give(x, 0, 7);
            x.set(0, 0, 998);
            x.set(2, 0, 9);
            Edge.due("0 wins", x.game(0, 1), 0);
            Edge.due("image", x.image(), 2);
            x.set(0, 0, 0);
            x.set(2, 0, 0);
            x.set(3, 0, 0);
            x.set(3, 1, 99);
            x.force(0);
            Edge.give(x, Edge.HALL, Edge.ALL_THINGS);
            x.game(0, 1);
            Edge.due("back", x.back(), 2);
            int[][] told = {{9, 99, 0, 1, 0, 0}, {0, 0, 0, 0, 255, 8}};
            for (int one = 0; one < 2; one++) {
                for (int what = 2; what <= 7; what++) {
                    Edge.due(what + " of " + one, x.told(one, what), told[one][what - 2]);
                }
            }
            Edge.due("ROUND", x.count(2), 999);
            Edge.due("THE RULE", x.count(5), 1);
        });
        Edge.test(22, "All that it keeps", x -> {
            x.image();
            Edge.read(x, Edge.PLAIN);
            x.feed(255);
            x.sheet(0, Edge.INTS, 40);
            x.sheet(3, Edge.BYTES, 0);
            Edge.due("back", x.back(), 0);
            Edge.due("TEXTS stay", x.count(3), 2);
            Edge.due("THE TAPE stays", x.count(4), 1);
            Edge.due("SHEETS stay", Edge.sizeOf(x, 0), 40);
            Edge.due("SHEETS stay", Edge.sizeOf(x, 3), 0);
        });
    }

    // ---- 23 count

    private static void counts() {
        Edge.test(23, "0 PLAYERS, 1 THINGS in THE HALL, 2 ROUND, 3 TEXTS, 4 bytes of THE TAPE, 5 THE RULE", x -> {
            int[] first = {0, 8, 0, 1, 0, 0};
            for (int what = 0; what < 6; what++) {
                Edge.due("at first: " + what, x.count(what), first[what]);
            }
            Edge.come(x, 0, 0, 0, 0, 0, 0);
            Edge.give(x, 5, Edge.ALL_THINGS);
            x.set(0, 0, 999);
            for (int i = 0; i < 5; i++) {
                Edge.rule(x, "plays 1;throws 0;tires 0;");
            }
            for (int i = 0; i < 161; i++) {
                x.feed(i);
            }
            int[] last = {6, 0, 999, 6, 160, 5};
            for (int what = 0; what < 6; what++) {
                Edge.due("at most: " + what, x.count(what), last[what]);
            }
        });
        Edge.test(23, "BAD.", x -> {
            for (int what : new int[] {-1, 6, Edge.MIN, Edge.MAX}) {
                Edge.due("what " + what, x.count(what), Edge.BAD);
            }
        });
        Edge.test(23, "they change nothing",
            x -> Edge.changesNothing(Edge.BAD, Edge::lively, y -> y.count(6), y -> y.count(-1)));
        Edge.test(23, "1 THINGS in THE HALL", x -> {
            Edge.come(x, 0);
            for (int thing : Edge.ALL_THINGS) {
                Edge.due("in THE HALL", x.count(1), 8 - thing);
                Edge.give(x, 0, thing);
            }
            Edge.due("none", x.count(1), 0);
        });
    }
}
