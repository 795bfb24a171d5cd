/** The boundaries of promises 24 to 28: sheet, cell, copy, players, taken; a test for each sentence. */
public final class HostEdgeTests {
    public static void main(String[] args) {
        sheets();
        sheetsAreRefused();
        cells();
        cellsAreCut();
        cellsAreRefused();
        copies();
        copiesOverlap();
        copiesAreRefused();
        players();
        playersByPlaces();
        playersAreLeftOut();
        playersAreRefused();
        takens();
        takensAreRefused();
        Edge.end("HostEdgeTests", 24, 28);
    }

    // ---- what these tests share

    /** Are the items of a SHEET these (0 .. 99 each)? An object of two PLAYERS at least; SHEET 3 is used up. */
    private static void holds(LoserKeepsTheBoard x, int sheet, int... items) {
        Edge.due("size of " + sheet, Edge.sizeOf(x, sheet), items.length);
        for (int i = 0; i < items.length; i++) {
            Edge.due("item " + i + " of " + sheet, Edge.itemOf(x, sheet, i), items[i]);
        }
    }

    private static void twoWhoRead(LoserKeepsTheBoard x) {
        Edge.come(x, 0, 0);
        Edge.readsItems(x);
    }

    // ---- 24 sheet

    private static void sheets() {
        Edge.test(24, "SHEETS 0 .. 3 are rows of numbers, or missing (as all are at first)", x -> {
            for (int sheet = 0; sheet < 4; sheet++) {
                Edge.due("missing", x.cell(sheet, 0, 0), Edge.NOTHING);
                Edge.due("it becomes one", x.sheet(sheet, 0, 1), 1);
                Edge.due("it is one", x.cell(sheet, 0, 0), 1);
            }
            for (int sheet : new int[] {-1, 4, Edge.MIN, Edge.MAX}) {
                for (int sort = -1; sort <= 2; sort++) {
                    Edge.due("SHEET " + sheet, x.sheet(sheet, sort, 1), Edge.BAD);
                }
            }
        });
        Edge.test(24, "of sort 0 bytes, 1 shorts, 2 ints", x -> {
            for (int sort = 0; sort <= 2; sort++) {
                Edge.due("sort " + sort, x.sheet(0, sort, 2), 1);
                Edge.due("it is of that", Edge.sortOf(x, 0), sort);
            }
            for (int sort : new int[] {3, -2, Edge.MIN, Edge.MAX}) {
                Edge.due("sort " + sort, x.sheet(0, sort, 2), Edge.BAD);
                Edge.due("it stays", Edge.sortOf(x, 0), 2);
            }
        });
        Edge.test(24, "A SHEET becomes a row of n of a sort, all 0", x -> {
            twoWhoRead(x);
            Edge.due("of none", x.sheet(0, 0, 0), 1);
            Edge.due("an empty one", Edge.sizeOf(x, 0), 0);
            Edge.due("it has no item", x.cell(0, 0, 0), Edge.OUTSIDE);
            Edge.due("of forty", x.sheet(0, 2, 40), 1);
            Edge.due("a full one", Edge.sizeOf(x, 0), 40);
            for (int i = 0; i < 40; i++) {
                Edge.due("its items", x.cell(0, i, 7), 1);
            }
            Edge.due("behind them", x.cell(0, 40, 7), Edge.OUTSIDE);
            Edge.due("anew", x.sheet(0, 2, 40), 1);
            for (int i = 0; i < 40; i += 13) {
                Edge.due("all 0", Edge.itemOf(x, 0, i), 0);
            }
            Edge.row(x, 1, 0, 5, 6, 7);
            x.sheet(1, 0, 1);
            x.sheet(1, 0, 3);
            holds(x, 1, 0, 0, 0);
        });
    }

    private static void sheetsAreRefused() {
        Edge.test(24, "or missing (sort -1: n does not matter): 1", x -> {
            for (int n : new int[] {0, 1, 40, 41, -1, Edge.MIN, Edge.MAX}) {
                x.sheet(2, 1, 3);
                Edge.due("n " + n, x.sheet(2, -1, n), 1);
                Edge.due("missing", x.cell(2, 0, 0), Edge.NOTHING);
                Edge.due("missing already, n " + n, x.sheet(2, -1, n), 1);
            }
        });
        Edge.test(24, "BAD: no such SHEET, sort; n above 40; -14.", x -> {
            for (int n : new int[] {41, Edge.MAX}) {
                Edge.due("n " + n, x.sheet(0, 0, n), Edge.BAD);
                Edge.due("no such SHEET, n " + n, x.sheet(4, 0, n), Edge.BAD);
            }
            for (int n : new int[] {-1, Edge.MIN}) {
                Edge.due("n " + n, x.sheet(0, 2, n), Edge.BELOW);
                Edge.due("no such SHEET, n " + n, x.sheet(4, 0, n), Edge.BAD);
                Edge.due("no such SHEET, n " + n, x.sheet(-1, 0, n), Edge.BAD);
                Edge.due("no such sort, n " + n, x.sheet(0, 3, n), Edge.BAD);
                Edge.due("no such sort, n " + n, x.sheet(0, -2, n), Edge.BAD);
            }
            Edge.due("still missing", x.cell(0, 0, 0), Edge.NOTHING);
            Edge.due("the most", x.sheet(0, 0, 40), 1);
            Edge.due("the fewest", x.sheet(3, 2, 0), 1);
        });
        Edge.test(24, "-14 a size below 0", x -> {
            x.sheet(1, 1, 2);
            for (int sort = 0; sort <= 2; sort++) {
                Edge.due("sort " + sort, x.sheet(1, sort, -1), Edge.BELOW);
            }
            Edge.due("it stays", Edge.sizeOf(x, 1), 2);
        });
        Edge.test(24, "they change nothing", x -> {
            Edge.changesNothing(Edge.BAD, Edge::lively, y -> y.sheet(-1, 0, 1), y -> y.sheet(4, -1, 1),
                y -> y.sheet(0, 3, 1), y -> y.sheet(0, -2, 1), y -> y.sheet(0, 0, 41), y -> y.sheet(3, 0, 41));
            Edge.changesNothing(Edge.BELOW, Edge::lively, y -> y.sheet(0, 0, -1), y -> y.sheet(3, 2, Edge.MIN));
        });
    }

    // ---- 25 cell

    private static void cells() {
        Edge.test(25, "Item i of a SHEET becomes v", x -> {
            twoWhoRead(x);
            Edge.row(x, 0, Edge.INTS, 1, 2, 3);
            Edge.due("the first", x.cell(0, 0, 99), 1);
            holds(x, 0, 99, 2, 3);
            Edge.due("the last", x.cell(0, 2, 98), 1);
            holds(x, 0, 99, 2, 98);
        });
        Edge.test(25, "-12 a place outside", x -> {
            for (int size : new int[] {0, 1, 40}) {
                x.sheet(0, Edge.BYTES, size);
                for (int i : new int[] {-1, size, size + 1, Edge.MIN, Edge.MAX}) {
                    Edge.due("item " + i + " of " + size, x.cell(0, i, 1), Edge.OUTSIDE);
                }
                Edge.due("the first of " + size, x.cell(0, 0, 1), size == 0 ? Edge.OUTSIDE : 1);
                Edge.due("the last of " + size, x.cell(0, size - 1, 1), size == 0 ? Edge.OUTSIDE : 1);
            }
        });
    }

    private static void cellsAreCut() {
        Edge.test(25, "(of bytes, shorts its lowest 8, 16 bits)", x -> {
            twoWhoRead(x);
            x.sheet(0, Edge.BYTES, 1);
            int[][] bytes = {{0, 0}, {99, 99}, {255, -1}, {256, 0}, {257, 1}, {256 + 99, 99}, {-1, -1}, {-256, 0},
                {-244, 12}, {65536 + 7, 7}, {Edge.MIN, 0}, {Edge.MAX, -1}, {Edge.MIN + 5, 5}, {512 - 1, -1}};
            for (int[] cut : bytes) {
                x.cell(0, 0, cut[0]);
                Edge.due("a byte of " + cut[0], Edge.itemOf(x, 0, 0), cut[1]);
            }
            x.sheet(0, Edge.SHORTS, 1);
            int[][] shorts = {{0, 0}, {99, 99}, {256, -1}, {257, -1}, {65535, -1}, {65536, 0}, {65537, 1}, {-65536, 0},
                {-65524, 12}, {Edge.MIN, 0}, {Edge.MAX, -1}, {Edge.MIN + 5, 5}};
            for (int[] cut : shorts) {
                x.cell(0, 0, cut[0]);
                Edge.due("a short of " + cut[0], Edge.itemOf(x, 0, 0), cut[1]);
            }
            x.sheet(0, Edge.INTS, 1);
            int[][] ints = {{0, 0}, {99, 99}, {257, -1}, {65537, -1}, {Edge.MIN, -1}, {Edge.MAX, -1}};
            for (int[] cut : ints) {
                x.cell(0, 0, cut[0]);
                Edge.due("an int of " + cut[0], Edge.itemOf(x, 0, 0), cut[1]);
            }
        });
        Edge.test(25, "its lowest 8, 16 bits", x -> {
            Edge.rule(x, "plays 99;throws number;tires 0;");
            x.player(Edge.MASTER, 1);
            x.player(Edge.PLAYER, 0);
            int[][] thrown = {{Edge.BYTES, 255, 1}, {Edge.BYTES, -1, 1}, {Edge.BYTES, 254, 0}, {Edge.BYTES, 511, 1},
                {Edge.SHORTS, 65535, 1}, {Edge.SHORTS, 255, 0}, {Edge.SHORTS, Edge.MAX, 1}, {Edge.INTS, 65535, 0},
                {Edge.INTS, -1, 1}};
            for (int[] told : thrown) {
                Edge.row(x, 0, told[0], 0, told[1]);
                Edge.due("sort " + told[0] + ", " + told[1] + " is -1", x.tells(0, 0, 0) == Edge.NONE ? 1 : 0, told[2]);
            }
            x.set(2, 0, 0);
            Edge.row(x, 0, Edge.SHORTS, 0, 198);
            Edge.due("a short is 198", x.tells(0, 0, 0), Edge.NONE);
        });
    }

    private static void cellsAreRefused() {
        Edge.test(25, "BAD: no such SHEET; -11; -12.", x -> {
            for (int sheet : new int[] {-1, 4, Edge.MIN, Edge.MAX}) {
                Edge.due("SHEET " + sheet, x.cell(sheet, 0, 0), Edge.BAD);
                Edge.due("SHEET " + sheet + ", outside", x.cell(sheet, -1, 0), Edge.BAD);
            }
            for (int sheet = 0; sheet < 4; sheet++) {
                Edge.due("missing", x.cell(sheet, 0, 0), Edge.NOTHING);
                Edge.due("missing, below", x.cell(sheet, -1, 0), Edge.NOTHING);
                Edge.due("missing, above", x.cell(sheet, Edge.MAX, 0), Edge.NOTHING);
            }
        });
        Edge.test(25, "they change nothing", x -> {
            Edge.changesNothing(Edge.BAD, Edge::lively, y -> y.cell(4, 0, 9), y -> y.cell(-1, 0, 9));
            Edge.changesNothing(Edge.NOTHING, Edge::lively, y -> y.cell(3, 0, 9));
            Edge.changesNothing(Edge.OUTSIDE, Edge::lively, y -> y.cell(0, 3, 9), y -> y.cell(0, -1, 9),
                y -> y.cell(1, 4, 9), y -> y.cell(2, Edge.MAX, 9));
        });
    }

    // ---- 26 copy

    private static void copies() {
        Edge.test(26, "n numbers of a SHEET, from item i on, come to another one's item j on", x -> {
            twoWhoRead(x);
            Edge.row(x, 0, Edge.SHORTS, 1, 2, 3);
            Edge.row(x, 1, Edge.SHORTS, 4, 5);
            Edge.due("none", x.copy(0, 0, 1, 0, 0), 0);
            holds(x, 1, 4, 5);
            Edge.due("the last to the first", x.copy(0, 2, 1, 0, 1), 1);
            holds(x, 1, 3, 5);
            Edge.due("the first to the last", x.copy(0, 0, 1, 1, 1), 1);
            holds(x, 1, 3, 1);
            Edge.due("all of it", x.copy(1, 0, 0, 1, 2), 2);
            holds(x, 0, 1, 3, 1);
            holds(x, 1, 3, 1);
        });
        Edge.test(26, "-12 (also with n below 0).", x -> {
            Edge.row(x, 0, Edge.BYTES, 1, 2, 3);
            Edge.row(x, 1, Edge.BYTES, 4, 5);
            int[][] inside = {{0, 0, 2}, {1, 0, 2}, {2, 1, 1}, {3, 2, 0}, {0, 2, 0}, {3, 0, 0}};
            for (int[] a : inside) {
                Edge.due("copy " + java.util.Arrays.toString(a), x.copy(0, a[0], 1, a[1], a[2]), a[2]);
            }
            int[][] outside = {{0, 0, 3}, {2, 0, 2}, {0, 1, 2}, {3, 0, 1}, {0, 2, 1}, {4, 0, 0}, {0, 3, 0}, {-1, 0, 1},
                {0, -1, 1}, {-1, 0, 0}, {0, -1, 0}, {0, 0, -1}, {3, 2, -1}, {0, 0, Edge.MIN}, {0, 0, Edge.MAX},
                {Edge.MAX, 0, 1}, {0, Edge.MAX, 1}, {Edge.MAX, Edge.MAX, Edge.MAX}, {Edge.MIN, 0, 1}, {1, 1, Edge.MAX},
                {Edge.MIN, Edge.MIN, Edge.MIN}, {Edge.MAX, 0, 0}, {2, 0, Edge.MAX - 1}};
            for (int[] a : outside) {
                Edge.due("copy " + java.util.Arrays.toString(a), x.copy(0, a[0], 1, a[1], a[2]), Edge.OUTSIDE);
            }
        });
        Edge.test(26, "of a SHEET, from item i on", x -> {
            x.sheet(0, Edge.INTS, 0);
            x.sheet(1, Edge.INTS, 40);
            x.sheet(2, Edge.INTS, 40);
            Edge.due("none of an empty one", x.copy(0, 0, 1, 40, 0), 0);
            Edge.due("none to an empty one", x.copy(1, 40, 0, 0, 0), 0);
            Edge.due("one of an empty one", x.copy(0, 0, 1, 0, 1), Edge.OUTSIDE);
            Edge.due("one to an empty one", x.copy(1, 0, 0, 0, 1), Edge.OUTSIDE);
            Edge.due("all of a full one", x.copy(1, 0, 2, 0, 40), 40);
            Edge.due("more than a full one", x.copy(1, 0, 2, 0, 41), Edge.OUTSIDE);
            Edge.due("all but one, one further on", x.copy(1, 0, 2, 1, 39), 39);
            Edge.due("all, one further on", x.copy(1, 0, 2, 1, 40), Edge.OUTSIDE);
        });
    }

    private static void copiesOverlap() {
        Edge.test(26, "(as they were): n.", x -> {
            twoWhoRead(x);
            Edge.row(x, 0, Edge.INTS, 1, 2, 3, 4);
            Edge.due("one further on", x.copy(0, 0, 0, 1, 3), 3);
            holds(x, 0, 1, 1, 2, 3);
            Edge.row(x, 0, Edge.INTS, 1, 2, 3, 4);
            Edge.due("one back", x.copy(0, 1, 0, 0, 3), 3);
            holds(x, 0, 2, 3, 4, 4);
            Edge.due("all upon itself", x.copy(0, 0, 0, 0, 4), 4);
            holds(x, 0, 2, 3, 4, 4);
            Edge.row(x, 1, Edge.INTS, 9, 9, 9, 9);
            Edge.due("to another", x.copy(0, 0, 1, 0, 4), 4);
            x.cell(0, 0, 50);
            holds(x, 1, 2, 3, 4, 4);
            x.cell(1, 1, 60);
            holds(x, 0, 50, 3, 4, 4);
        });
    }

    private static void copiesAreRefused() {
        Edge.test(26, "BAD: no such SHEET; -11; -13: they are of unlike sorts; -12", x -> {
            Edge.row(x, 0, Edge.BYTES, 1);
            Edge.row(x, 1, Edge.SHORTS, 1);
            Edge.row(x, 2, Edge.INTS, 1);
            for (int sheet : new int[] {-1, 4, Edge.MIN, Edge.MAX}) {
                Edge.due("of " + sheet, x.copy(sheet, 0, 0, 0, 1), Edge.BAD);
                Edge.due("to " + sheet, x.copy(0, 0, sheet, 0, 1), Edge.BAD);
                Edge.due("of " + sheet + " to a missing one", x.copy(sheet, 0, 3, 0, 1), Edge.BAD);
                Edge.due("of a missing one to " + sheet, x.copy(3, 0, sheet, 0, -1), Edge.BAD);
            }
            Edge.due("of a missing one", x.copy(3, 0, 0, 0, 1), Edge.NOTHING);
            Edge.due("to a missing one", x.copy(0, 0, 3, 0, 1), Edge.NOTHING);
            Edge.due("of a missing one to itself, outside", x.copy(3, -1, 3, -1, -1), Edge.NOTHING);
            for (int sheet = 0; sheet < 3; sheet++) {
                for (int other = 0; other < 3; other++) {
                    boolean isSame = sheet == other;
                    Edge.due("one of " + sheet + " to " + other, x.copy(sheet, 0, other, 0, 1),
                        isSame ? 1 : Edge.OTHER_SORT);
                    Edge.due("outside", x.copy(sheet, 9, other, 0, 1), isSame ? Edge.OUTSIDE : Edge.OTHER_SORT);
                    Edge.due("n below 0", x.copy(sheet, 0, other, 0, -1), isSame ? Edge.OUTSIDE : Edge.OTHER_SORT);
                }
            }
        });
        Edge.test(26, "they change nothing", x -> {
            Edge.changesNothing(Edge.BAD, Edge::lively, y -> y.copy(4, 0, 0, 0, 1), y -> y.copy(0, 0, -1, 0, 1));
            Edge.changesNothing(Edge.NOTHING, Edge::lively, y -> y.copy(3, 0, 0, 0, 1), y -> y.copy(0, 0, 3, 0, 1));
            Edge.changesNothing(Edge.OTHER_SORT, Edge::lively, y -> y.copy(0, 0, 1, 0, 1), y -> y.copy(1, 0, 2, 0, 1));
            Edge.changesNothing(Edge.OUTSIDE, Edge::lively, y -> y.copy(0, 0, 0, 1, 3), y -> y.copy(1, 3, 1, 0, 2),
                y -> y.copy(1, 0, 1, 2, -1), y -> y.copy(1, 2, 1, 0, 3));
        });
    }

    // ---- 27 players

    private static void players() {
        Edge.test(27, "from one on, two by two (as of player()), n of them (0 .. 6): how many came", x -> {
            Edge.row(x, 0, Edge.BYTES, 9, 0, 0, 1, 9, 2, 3, 3, 4, 4, 5, 5, 6);
            Edge.due("none", x.players(0, Edge.BYTES, 1, 0), 0);
            for (int n : new int[] {-1, 7, Edge.MIN, Edge.MAX}) {
                Edge.due("n " + n, x.players(0, Edge.BYTES, 1, n), Edge.BAD);
            }
            Edge.due("nobody came", x.count(0), 0);
            Edge.due("six", x.players(0, Edge.BYTES, 1, 6), 6);
            int[] numbers = {0, 9, 3, 4, 5, 6};
            for (int one = 0; one < 6; one++) {
                Edge.due("KIND", x.told(one, 4), one);
                Edge.due("NUMBER", x.told(one, 2), numbers[one]);
                Edge.due("STRONG", x.told(one, 3), 50);
            }
        });
        Edge.test(27, "n of them (0 .. 6)", x -> {
            x.sheet(0, Edge.INTS, 40);
            for (int n = 0; n <= 6; n++) {
                LoserKeepsTheBoard y = new LoserKeepsTheBoard();
                y.sheet(0, Edge.INTS, 12);
                Edge.due("n " + n, y.players(0, Edge.INTS, 0, n), n);
                Edge.due("n " + n, y.count(0), n);
            }
            Edge.due("the last two", x.players(0, Edge.INTS, 38, 1), 1);
            Edge.due("the last twelve", x.players(0, Edge.INTS, 28, 6), 5);
        });
    }

    private static void playersByPlaces() {
        Edge.test(27, "-12: what stood ahead came.", x -> {
            Edge.row(x, 0, Edge.SHORTS, 0, 1, 0, 2, 0);
            for (int from : new int[] {-1, -2, 4, 5, 6, Edge.MIN, Edge.MAX, Edge.MAX - 1}) {
                Edge.due("from " + from, x.players(0, Edge.SHORTS, from, 1), Edge.OUTSIDE);
                Edge.due("nobody came", x.count(0), 0);
            }
            Edge.due("the third is half outside", x.players(0, Edge.SHORTS, 0, 3), Edge.OUTSIDE);
            Edge.due("two came", x.count(0), 2);
            Edge.due("NUMBER", x.told(1, 2), 2);
            Edge.due("the third is outside", x.players(0, Edge.SHORTS, 1, 3), Edge.OUTSIDE);
            Edge.due("two more came", x.count(0), 4);
            Edge.due("KIND", x.told(3, 4), 2);
            Edge.due("all inside", x.players(0, Edge.SHORTS, 1, 2), 2);
        });
        Edge.test(27, "-12 a place outside", x -> {
            x.sheet(0, Edge.BYTES, 0);
            x.sheet(1, Edge.BYTES, 1);
            x.sheet(2, Edge.BYTES, 2);
            Edge.due("one of an empty row", x.players(0, Edge.BYTES, 0, 1), Edge.OUTSIDE);
            Edge.due("one of half a pair", x.players(1, Edge.BYTES, 0, 1), Edge.OUTSIDE);
            Edge.due("none of an empty row", x.players(0, Edge.BYTES, 0, 0), 0);
            Edge.due("none asked, none is outside", x.players(2, Edge.BYTES, Edge.MAX, 0), 0);
            Edge.due("none asked, none is outside", x.players(2, Edge.BYTES, Edge.MIN, 0), 0);
            Edge.due("the only one", x.players(2, Edge.BYTES, 0, 1), 1);
            Edge.due("one more", x.players(2, Edge.BYTES, 0, 2), Edge.OUTSIDE);
            Edge.due("came", x.count(0), 2);
            Edge.come(x, 0, 0, 0, 0);
            Edge.due("nobody has room, and outside", x.players(2, Edge.BYTES, 0, 2), Edge.OUTSIDE);
            Edge.due("nobody has room", x.players(2, Edge.BYTES, 0, 1), 0);
        });
    }

    private static void playersAreLeftOut() {
        Edge.test(27, "(others are left out)", x -> {
            Edge.row(x, 0, Edge.INTS, -1, 0, 0, -1, 6, 0, 0, 10, 5, 9, 256, 0);
            Edge.due("one of six", x.players(0, Edge.INTS, 0, 6), 1);
            Edge.due("KIND", x.told(0, 4), 5);
            Edge.due("NUMBER", x.told(0, 2), 9);
            Edge.row(x, 1, Edge.BYTES, 256, 257, -1, 0, 0, 255);
            Edge.due("by the lowest bits", x.players(1, Edge.BYTES, 0, 3), 1);
            Edge.due("KIND", x.told(1, 4), 0);
            Edge.due("NUMBER", x.told(1, 2), 1);
            x.sheet(2, Edge.INTS, 12);
            Edge.due("those who have no room", x.players(2, Edge.INTS, 0, 6), 4);
            Edge.due("PLAYERS", x.count(0), 6);
            Edge.due("nobody has room", x.players(2, Edge.INTS, 0, 6), 0);
        });
    }

    private static void playersAreRefused() {
        Edge.test(27, "BAD: no such SHEET, sort, n; -13; -11; -12", x -> {
            Edge.row(x, 0, Edge.SHORTS, 0, 0);
            for (int bad : new int[] {-1, 4, Edge.MIN, Edge.MAX}) {
                Edge.due("SHEET " + bad, x.players(bad, Edge.SHORTS, 0, 1), Edge.BAD);
                Edge.due("sort " + bad, x.players(0, bad, 0, 1), Edge.BAD);
                Edge.due("sort " + bad + ", of a missing one", x.players(1, bad, 0, 1), Edge.BAD);
            }
            Edge.due("sort 3", x.players(0, 3, 0, 1), Edge.BAD);
            for (int n : new int[] {-1, 7}) {
                Edge.due("n " + n + ", of another sort", x.players(0, Edge.INTS, 0, n), Edge.BAD);
                Edge.due("n " + n + ", of a missing one", x.players(1, Edge.INTS, 0, n), Edge.BAD);
            }
            for (int sort : new int[] {Edge.BYTES, Edge.INTS}) {
                Edge.due("of another sort", x.players(0, sort, 0, 1), Edge.OTHER_SORT);
                Edge.due("of another sort, outside", x.players(0, sort, 9, 1), Edge.OTHER_SORT);
                Edge.due("of another sort, none", x.players(0, sort, 0, 0), Edge.OTHER_SORT);
            }
            for (int sort = 0; sort <= 2; sort++) {
                Edge.due("a missing one is of no sort", x.players(3, sort, 0, 1), Edge.NOTHING);
                Edge.due("missing, outside", x.players(3, sort, -1, 6), Edge.NOTHING);
                Edge.due("missing, none", x.players(3, sort, 0, 0), Edge.NOTHING);
            }
            Edge.due("nobody came", x.count(0), 0);
            Edge.due("as it should be", x.players(0, Edge.SHORTS, 0, 1), 1);
        });
        Edge.test(27, "they change nothing", x -> {
            Edge.changesNothing(Edge.BAD, Edge::lively, y -> y.players(4, 0, 0, 1), y -> y.players(0, 3, 0, 1),
                y -> y.players(0, 0, 0, 7), y -> y.players(0, 0, 0, -1));
            Edge.changesNothing(Edge.OTHER_SORT, Edge::lively, y -> y.players(0, 1, 0, 1));
            Edge.changesNothing(Edge.NOTHING, Edge::lively, y -> y.players(3, 0, 0, 1));
            Edge.changesNothing(Edge.OUTSIDE, Edge::lively, y -> y.players(0, 0, -1, 1), y -> y.players(0, 0, 2, 1),
                y -> y.players(2, 2, Edge.MAX, 1));
        });
    }

    // ---- 28 taken

    private static void takens() {
        Edge.test(28, "taken for one of KIND k (0 .. 5), or one under that one (also by others between)", x -> {
            int[] kindsAbove = {1, 3, 5, 11, 21, 33};
            for (int kind = 0; kind < 6; kind++) {
                x.player(kind, kind + 4);
                for (int k = 0; k < 6; k++) {
                    boolean isUnder = (kindsAbove[kind] >> k & 1) != 0;
                    Edge.due(kind + " for one of " + k, x.taken(kind, k), isUnder ? kind + 4 : Edge.OTHER_SORT);
                }
            }
        });
        Edge.test(28, "the NUMBER", x -> {
            x.player(0, 0);
            Edge.due("the least", x.taken(0, 0), 0);
            x.set(2, 0, 9);
            Edge.due("the most", x.taken(0, 0), 9);
        });
    }

    private static void takensAreRefused() {
        Edge.test(28, "BAD: k; -11: no such PLAYER; -13.", x -> {
            for (int k : new int[] {-1, 6, Edge.MIN, Edge.MAX}) {
                Edge.due("nobody for one of " + k, x.taken(0, k), Edge.BAD);
            }
            for (int many = 0; many <= 6; many++) {
                for (int one : new int[] {many, -1, 6, Edge.MIN, Edge.MAX}) {
                    Edge.due("PLAYER " + one, x.taken(one, 0), Edge.NOTHING);
                    Edge.due("PLAYER " + one, x.taken(one, 5), Edge.NOTHING);
                }
                x.player(0, 3);
            }
            for (int k : new int[] {-1, 6, Edge.MIN, Edge.MAX}) {
                Edge.due("the last for one of " + k, x.taken(5, k), Edge.BAD);
            }
            Edge.due("the last", x.taken(5, 0), 3);
            Edge.due("the last, for the last KIND", x.taken(5, 5), Edge.OTHER_SORT);
        });
        Edge.test(28, "they change nothing", x -> {
            Edge.changesNothing(Edge.BAD, Edge::lively, y -> y.taken(0, 6), y -> y.taken(0, -1));
            Edge.changesNothing(Edge.NOTHING, Edge::lively, y -> y.taken(4, 0), y -> y.taken(-1, 0));
            Edge.changesNothing(Edge.OTHER_SORT, Edge::lively, y -> y.taken(0, 1));
            Edge.changesNothing(4, Edge::lively, y -> y.taken(1, 0));
        });
    }
}
