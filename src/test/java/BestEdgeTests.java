/** The boundaries of promises 13 to 16: best, order, all, soon; a test for each sentence. */
public final class BestEdgeTests {
    public static void main(String[] args) {
        bests();
        bestsOfNobody();
        orders();
        ordersOfMany();
        alls();
        allsByGames();
        soons();
        soonsAreRefused();
        Edge.end("BestEdgeTests", 13, 16);
    }

    // ---- 13 best

    private static void best(LoserKeepsTheBoard x, int one, int with, int then) {
        Edge.due("with whom", x.best(one, 0), with);
        Edge.due("how many then", x.best(one, 1), then);
    }

    private static void bests() {
        Edge.test(13, "one would HAVE most; of like ones the first; NONE", x -> {
            Edge.plain(x, 20, 30, 30, 10);
            best(x, 0, 1, 8);
            Edge.give(x, 2, 0);
            best(x, 0, 2, 8);
            Edge.give(x, 1, 1);
            best(x, 0, 1, 7);
            Edge.give(x, 1, 2);
            best(x, 0, 1, 7);
            best(x, 3, 1, 7);
        });
        Edge.test(13, "playing once now", x -> {
            Edge.plain(x, 20, 20, 10);
            Edge.give(x, 0, Edge.ALL_THINGS);
            best(x, 0, 1, 0);
            best(x, 2, 0, 8);
            Edge.give(x, 2, 7);
            best(x, 2, 0, 8);
            best(x, 1, 0, 0);
            Edge.due("in thought", x.count(2), 0);
            Edge.due("in thought", x.told(0, 7), 7);
        });
    }

    private static void bestsOfNobody() {
        Edge.test(13, "BEST OTHER (what 0; NONE), how many THINGS then (1; NONE).", x -> {
            Edge.plain(x, 50);
            best(x, 0, Edge.NONE, Edge.NONE);
            Edge.give(x, 0, Edge.ALL_THINGS);
            best(x, 0, Edge.NONE, Edge.NONE);
            Edge.join(x, 49);
            best(x, 0, 1, 0);
            best(x, 1, 0, 8);
        });
        Edge.test(13, "BAD.", x -> {
            for (int many = 0; many <= 6; many++) {
                for (int one : new int[] {many, -1, 6, Edge.MIN, Edge.MAX}) {
                    Edge.due("PLAYER " + one, x.best(one, 0), Edge.BAD);
                    Edge.due("PLAYER " + one, x.best(one, 1), Edge.BAD);
                }
                x.player(0, 0);
            }
            for (int what : new int[] {-1, 2, Edge.MIN, Edge.MAX}) {
                Edge.due("what " + what, x.best(5, what), Edge.BAD);
            }
            best(x, 5, 0, 0);
        });
        Edge.test(13, "they change nothing", x -> {
            Edge.changesNothing(Edge.BAD, Edge::lively, y -> y.best(4, 0), y -> y.best(-1, 1), y -> y.best(0, 2));
            Edge.changesNothing(1, Edge::lively, y -> y.best(0, 0) >= 0 ? 1 : 0);
        });
    }

    // ---- 14 order

    private static void order(LoserKeepsTheBoard x, int one, int digits, int then) {
        Edge.due("order", x.order(one, 0), digits);
        Edge.due("how many then", x.order(one, 1), then);
    }

    private static void orders() {
        Edge.test(14, "(digits: 1 more than each, the first the highest; 0: nobody else)", x -> {
            Edge.plain(x, 50);
            order(x, 0, 0, 0);
            Edge.give(x, 0, Edge.ALL_THINGS);
            order(x, 0, 0, 8);
            Edge.join(x, 49);
            order(x, 0, 2, 0);
            order(x, 1, 1, 8);
            Edge.join(x, 48);
            order(x, 1, 31, 8);
            order(x, 2, 12, 8);
        });
        Edge.test(14, "that by which one would HAVE most at last", x -> {
            Edge.plain(x, 30, 40, 10);
            order(x, 0, 23, 0);
            Edge.give(x, 1, 1, 2);
            order(x, 0, 32, 2);
            order(x, 2, 12, 8);
            Edge.due("in thought", x.count(2), 0);
        });
    }

    private static void ordersOfMany() {
        Edge.test(14, "of like ones the first (digits", x -> {
            Edge.plain(x, 99, 50, 60, 70, 80, 10);
            order(x, 0, 23456, 0);
            order(x, 5, 12345, 8);
            Edge.give(x, 0, 0);
            order(x, 4, 23461, 1);
            Edge.give(x, 0, 1);
            order(x, 5, 12345, 8);
        });
        Edge.test(14, "of all orders in which one can play each other one once", x -> {
            Edge.plain(x, 50, 50, 50, 50, 50, 50);
            Edge.give(x, 5, 0);
            for (int one = 0; one < 5; one++) {
                order(x, one, one == 0 ? 23456 : one == 1 ? 13456 : one == 2 ? 12456 : one == 3 ? 12356 : 12346, 0);
            }
            order(x, 5, 12345, 0);
            x.set(3, 4, 51);
            order(x, 0, 23465, 8);
            order(x, 4, 12346, 0);
        });
        Edge.test(14, "BAD.", x -> {
            for (int many = 0; many <= 6; many++) {
                for (int one : new int[] {many, -1, 6, Edge.MIN, Edge.MAX}) {
                    Edge.due("PLAYER " + one, x.order(one, 0), Edge.BAD);
                    Edge.due("PLAYER " + one, x.order(one, 1), Edge.BAD);
                }
                x.player(0, 0);
            }
            for (int what : new int[] {-1, 2, Edge.MIN, Edge.MAX}) {
                Edge.due("what " + what, x.order(5, what), Edge.BAD);
            }
        });
        Edge.test(14, "they change nothing", x -> {
            Edge.changesNothing(Edge.BAD, Edge::lively, y -> y.order(4, 0), y -> y.order(-1, 1), y -> y.order(0, 2));
            Edge.changesNothing(1, Edge::lively, y -> y.order(0, 0) >= 0 ? 1 : 0);
        });
    }

    // ---- 15 all

    private static void alls() {
        Edge.test(15, "ALL (n 0 .. 3)", x -> {
            for (int n : new int[] {-1, 4, Edge.MIN, Edge.MAX}) {
                Edge.due("of nobody by " + n, x.all(n), Edge.BAD);
            }
            for (int n = 0; n <= 3; n++) {
                Edge.due("of nobody by " + n, x.all(n), 0);
            }
            Edge.plain(x, 50);
            for (int n = 0; n <= 3; n++) {
                Edge.due("of one alone by " + n, x.all(n), 0);
            }
            Edge.give(x, 0, Edge.ALL_THINGS);
            for (int n = 0; n <= 3; n++) {
                Edge.due("of one alone who HAS all by " + n, x.all(n), 1);
            }
        });
        Edge.test(15, "STATE: n is 3, and there are more than 4 PLAYERS.", x -> {
            Edge.plain(x, 50, 40, 30, 20);
            Edge.due("of 4", x.all(3), 14);
            Edge.join(x, 10);
            Edge.due("of 5", x.all(3), Edge.STATE);
            Edge.due("of 5 by 2", x.all(2), 30);
            Edge.due("of 5, BAD ahead of it", x.all(4), Edge.BAD);
            Edge.due("of 5, BAD ahead of it", x.all(-1), Edge.BAD);
            Edge.join(x, 0);
            Edge.due("of 6", x.all(3), Edge.STATE);
            Edge.due("of 6 by 2", x.all(2), 62);
        });
        Edge.test(15, "they change nothing", x -> {
            Edge.changesNothing(Edge.BAD, Edge::lively, y -> y.all(4), y -> y.all(-1));
            Edge.changesNothing(Edge.STATE, y -> {
                Edge.lively(y);
                Edge.come(y, 0);
            }, y -> y.all(3));
            Edge.changesNothing(1, Edge::lively, y -> y.all(3) >= 0 ? 1 : 0);
        });
    }

    private static void allsByGames() {
        Edge.test(15, "who could HAVE all eight by some n games or fewer, any", x -> {
            Edge.plain(x, 10, 20, 30, 40);
            Edge.give(x, 3, Edge.ALL_THINGS);
            Edge.due("all by none", x.all(0), 8);
            Edge.due("or fewer", x.all(1), 15);
            Edge.give(x, 0, 0);
            Edge.due("seven are not all", x.all(0), 0);
            Edge.due("by one game", x.all(1), 1);
            Edge.give(x, 1, 1);
            Edge.due("not by one", x.all(1), 0);
            Edge.due("by two", x.all(2), 1);
            Edge.give(x, 2, 2);
            Edge.due("not by two", x.all(2), 0);
            Edge.due("by three", x.all(3), 1);
            Edge.give(x, Edge.HALL, 3);
            Edge.due("with what is in THE HALL", x.all(3), 1);
        });
        Edge.test(15, "PLAYERS (bits)", x -> {
            Edge.plain(x, 50, 40, 30, 20, 10, 0);
            Edge.due("all but the strongest", x.all(1), 62);
            Edge.due("who HAS all, by none", x.all(0), 0);
            Edge.give(x, 0, Edge.ALL_THINGS);
            Edge.due("the first", x.all(0), 1);
            Edge.give(x, 5, Edge.ALL_THINGS);
            Edge.due("the last", x.all(0), 32);
            Edge.due("nobody wins against the others but loses to the last", x.all(2), 32);
        });
    }

    // ---- 16 soon

    private static void soons() {
        // The other one is stronger, but less so by 2 a game: at which game one wins at last.
        Edge.test(16, "(0: now; to 20)", x -> {
            Edge.rule(x, "plays strong;throws 0;tires number;");
            Edge.come(x, 0, 0);
            x.set(3, 0, 60);
            x.set(2, 1, 2);
            int[][] soons = {{59, 1}, {60, 1}, {61, 2}, {62, 2}, {63, 3}, {95, 19}, {96, 19}, {97, 20}, {98, 20},
                {99, Edge.NONE}};
            Edge.due("HAS nothing", x.soon(0, 1), 0);
            Edge.due("HAS nothing", x.soon(1, 0), 0);
            Edge.give(x, 0, 7);
            for (int[] soon : soons) {
                x.set(3, 1, soon[0]);
                Edge.due("the other is " + soon[0], x.soon(0, 1), soon[1]);
            }
            Edge.due("in thought", x.told(0, 6), 128);
            Edge.due("in thought", x.count(2), 0);
        });
        Edge.test(16, "till one HAS nothing", x -> {
            Edge.plain(x, 50, 50, 40);
            Edge.give(x, 0, 0);
            Edge.due("a draw", x.soon(0, 1), 1);
            Edge.due("a game that one wins", x.soon(0, 2), 1);
            Edge.give(x, 2, Edge.ALL_THINGS);
            Edge.due("never", x.soon(2, 0), Edge.NONE);
            Edge.due("now", x.soon(0, 2), 0);
        });
        Edge.test(16, "to 20); NONE", x -> {
            Edge.rule(x, "plays round=number*10+9;throws 0;tires 0;");
            x.player(0, 1);
            x.player(0, 9);
            Edge.rule(x, "plays strong=50 and 18<round or strong<50;throws 0;tires 0;");
            Edge.rule(x, "plays strong=50 and 19<round or strong<50;throws 0;tires 0;");
            x.set(3, 1, 49);
            Edge.give(x, 0, 0);
            x.force(2);
            Edge.due("a draw at the 20th", x.soon(0, 1), 20);
            x.force(3);
            Edge.due("a draw at the 21st", x.soon(0, 1), Edge.NONE);
        });
    }

    private static void soonsAreRefused() {
        Edge.test(16, "BAD: no such two, one and the same; NONE.", x -> {
            for (int many = 0; many <= 6; many++) {
                Edge.due("one and the same", x.soon(0, 0), Edge.BAD);
                Edge.due("the last, and the first not there", x.soon(many - 1, many), Edge.BAD);
                Edge.due("the first not there, and the last", x.soon(many, many - 1), Edge.BAD);
                Edge.due("below", x.soon(0, -1), Edge.BAD);
                Edge.due("below", x.soon(-1, 0), Edge.BAD);
                x.player(0, 0);
            }
            Edge.due("far off", x.soon(Edge.MAX, 0), Edge.BAD);
            Edge.due("far off", x.soon(0, Edge.MIN), Edge.BAD);
            Edge.due("the last two", x.soon(4, 5), 0);
        });
        Edge.test(16, "they change nothing", x -> {
            Edge.changesNothing(Edge.BAD, Edge::lively, y -> y.soon(0, 0), y -> y.soon(0, 4), y -> y.soon(-1, 0));
            Edge.changesNothing(1, Edge::lively, y -> y.soon(2, 1) >= Edge.NONE ? 1 : 0);
        });
    }
}
