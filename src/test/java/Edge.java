import java.io.IOException;
import java.nio.file.Files;
import java.nio.file.Path;
import java.util.ArrayList;
import java.util.HashMap;
import java.util.List;
import java.util.Map;
import java.util.Set;
import java.util.TreeSet;

/**
 * What the edge tests share. Each test stands for one sentence of the document under one of its promises, and
 * bears their names; the sentence must stand there to the letter.
 */
final class Edge {
    static final int NONE = -1, BAD = -2, STATE = -3, FULL = -4, HALL = -1, NONE_SUCH = -1000;
    static final int NOTHING = -11, OUTSIDE = -12, OTHER_SORT = -13, BELOW = -14;
    static final int MIN = Integer.MIN_VALUE, MAX = Integer.MAX_VALUE;
    static final long NO = -4611686018427387904L;
    static final int PLAYER = 0, MASTER = 1, BOY = 2, CHAMPION = 3, GROOM = 4, WIDOW = 5;
    static final int BYTES = 0, SHORTS = 1, INTS = 2;
    static final int[] ALL_THINGS = {0, 1, 2, 3, 4, 5, 6, 7};

    /** Who is stronger wins, and nobody tires. */
    static final String PLAIN = "plays strong;throws 0;tires 0;";
    static final String REST = ";throws 0;tires 0;";

    private static final Path DOCUMENT = Path.of("../shared/DOC.md");
    private static final List<String> FOR_ALL = List.of("What it is", "The public face", "Terms", "Not promised");

    private static final Map<String, String> sections = sections();
    private static final Set<String> names = new TreeSet<>();
    private static String name;
    private static boolean holds;
    private static int passed;
    private static int failed;

    private Edge() {
    }

    interface Calls {
        void on(LoserKeepsTheBoard x);
    }

    interface Call {
        long on(LoserKeepsTheBoard x);
    }

    // ---- the document

    private static Map<String, String> sections() {
        try {
            Map<String, String> read = new HashMap<>();
            for (String section : Files.readString(DOCUMENT).split("(?m)^## ")) {
                int end = section.indexOf('\n');
                read.put(end < 0 ? section : section.substring(0, end).trim(), oneLine(section.substring(end + 1)));
            }
            return read;
        } catch (IOException e) {
            throw new IllegalStateException(DOCUMENT + " can't be read", e);
        }
    }

    private static String oneLine(String text) {
        return text.replaceAll("\\s+", " ");
    }

    private static String heading(int promise) {
        for (String heading : sections.keySet()) {
            if (heading.startsWith("Promise " + promise + ":")) {
                return heading;
            }
        }
        return "Promise " + promise;
    }

    private static boolean stands(int promise, String sentence) {
        List<String> where = new ArrayList<>(FOR_ALL);
        where.add(heading(promise));
        for (String heading : where) {
            if (sections.getOrDefault(heading, "").contains(sentence)) {
                return true;
            }
        }
        return false;
    }

    // ---- a test

    /** A test on a new object. */
    static void test(int promise, String sentence, Calls calls) {
        name = heading(promise) + ", \"" + sentence + "\"";
        holds = true;
        if (!names.add(name)) {
            wrong("is the name of two tests");
        }
        if (!stands(promise, sentence)) {
            wrong("does not stand in the document");
        }
        calls.on(new LoserKeepsTheBoard());
        if (holds) {
            passed++;
        } else {
            failed++;
        }
    }

    private static void wrong(String what) {
        holds = false;
        System.out.println(name + ": " + what);
    }

    static void due(String what, long got, long want) {
        if (got != want) {
            wrong(what + " answered " + got + ", due is " + want);
        }
    }

    /** Each of these calls, on an object of its own, answers so, and nothing is otherwise behind it. */
    static void changesNothing(long answer, Calls ahead, Call... calls) {
        for (int i = 0; i < calls.length; i++) {
            LoserKeepsTheBoard without = new LoserKeepsTheBoard();
            LoserKeepsTheBoard with = new LoserKeepsTheBoard();
            ahead.on(without);
            ahead.on(with);
            due("call " + i, calls[i].on(with), answer);
            List<Long> seen = everything(with);
            List<Long> want = everything(without);
            if (!seen.equals(want)) {
                wrong("call " + i + " left " + seen + ", due is " + want);
            }
        }
    }

    /** The tests of a file end: each of these promises has one at least. */
    static void end(String file, int first, int last) {
        for (int promise = first; promise <= last; promise++) {
            boolean isThere = false;
            for (String one : names) {
                isThere |= one.startsWith(heading(promise) + ",");
            }
            if (!isThere) {
                failed++;
                System.out.println(heading(promise) + " has no test");
            }
        }
        System.out.println(file + ": " + passed + " passed, " + failed + " failed");
        if (failed != 0) {
            System.exit(1);
        }
    }

    // ---- what the tests do

    /** Feeds all bytes, and reads them as a TEXT. */
    static int read(LoserKeepsTheBoard x, String text) {
        for (int i = 0; i < text.length(); i++) {
            x.feed(text.charAt(i));
        }
        return x.text();
    }

    /** Reads a TEXT that must stand, and makes it THE RULE. */
    static void rule(LoserKeepsTheBoard x, String text) {
        int number = read(x, text);
        due("text " + text, number >= 1 ? 1 : number, 1);
        x.force(number);
    }

    static void come(LoserKeepsTheBoard x, int... kinds) {
        for (int kind : kinds) {
            due("player", x.player(kind, 0) >= 0 ? 1 : 0, 1);
        }
    }

    /** PLAYERS so strong; who is stronger wins, and nobody tires. */
    static void plain(LoserKeepsTheBoard x, int... strong) {
        rule(x, PLAIN);
        join(x, strong);
    }

    /** PLAYERS come, each so STRONG. */
    static void join(LoserKeepsTheBoard x, int... strong) {
        for (int one : strong) {
            x.set(3, x.player(PLAYER, 0), one);
        }
    }

    static void give(LoserKeepsTheBoard x, int to, int... things) {
        for (int thing : things) {
            x.set(1, thing, to);
        }
    }

    static void row(LoserKeepsTheBoard x, int sheet, int sort, int... items) {
        due("sheet", x.sheet(sheet, sort, items.length), 1);
        for (int i = 0; i < items.length; i++) {
            due("cell", x.cell(sheet, i, items[i]), 1);
        }
    }

    static int[] many(int n, int item) {
        int[] items = new int[n];
        java.util.Arrays.fill(items, item);
        return items;
    }

    // ---- what can be seen

    /** A club in which nothing is as at first: 65 calls. */
    static void lively(LoserKeepsTheBoard x) {
        for (int one = 0; one < 4; one++) {
            x.player(one, 3 + one);
            x.set(3, one, 61 - 7 * one);
        }
        give(x, 0, 0, 1);
        give(x, 1, 2);
        give(x, 3, 3);
        x.set(0, 0, 17);
        x.image();
        x.game(2, 1);
        give(x, 2, 4, 6);
        x.set(0, 0, 123);
        x.set(2, 0, 7);
        rule(x, "plays 7;throws 0;tires 0;");
        row(x, 0, BYTES, 1, 12, 30);
        row(x, 1, SHORTS, 5, 0, 9, 3);
        row(x, 2, INTS, 1, 2);
        for (int i = 0; i < 7; i++) {
            x.feed("plays 1".charAt(i));
        }
    }

    /** All that any call can tell of an object, which is used up by it: some 240 calls behind lively(). */
    static List<Long> everything(LoserKeepsTheBoard x) {
        List<Long> seen = new ArrayList<>();
        look(x, seen);
        for (int sheet = 0; sheet < 4; sheet++) {
            seen.add((long) sortOf(x, sheet));
            seen.add((long) sizeOf(x, sheet));
        }
        if (x.count(0) >= 2) {
            lookIntoSheets(x, seen);
        }
        seen.add((long) x.text());
        seen.add((long) x.force(x.count(3) - 1));
        for (int what = 0; what < 6; what++) {
            seen.add((long) x.asks(0, 1, what));
        }
        seen.add((long) x.back());
        look(x, seen);
        return seen;
    }

    private static void look(LoserKeepsTheBoard x, List<Long> seen) {
        for (int what = 0; what < 6; what++) {
            seen.add((long) x.count(what));
        }
        for (int thing = 0; thing < 8; thing++) {
            seen.add((long) x.told(thing, 1));
        }
        for (int one = 0; one < 6; one++) {
            for (int what = 2; what < 8; what++) {
                seen.add((long) x.told(one, what));
            }
        }
        seen.add((long) x.robin(6));
    }

    /** The items of small rows, where 0 is a PLAYER; SHEET 3 is used up. */
    private static void lookIntoSheets(LoserKeepsTheBoard x, List<Long> seen) {
        readsItems(x);
        for (int sheet = 0; sheet < 3; sheet++) {
            int size = sizeOf(x, sheet);
            for (int i = 0; i < size && size <= 6; i++) {
                seen.add((long) itemOf(x, sheet, i));
            }
        }
    }

    static int sortOf(LoserKeepsTheBoard x, int sheet) {
        for (int sort = 0; sort < 3; sort++) {
            if (x.players(sheet, sort, 0, 0) == 0) {
                return sort;
            }
        }
        return -1;
    }

    /** How many items a SHEET has: none of them can be copied from behind its last. */
    static int sizeOf(LoserKeepsTheBoard x, int sheet) {
        int least = -1;
        int most = 41;
        while (most - least > 1) {
            int middle = (least + most) / 2;
            if (x.copy(sheet, middle, sheet, middle, 0) == 0) {
                least = middle;
            } else {
                most = middle;
            }
        }
        return least;
    }

    /** By TEXT 0 who HAS any plays as strong as one is: ahead of itemOf(). */
    static void readsItems(LoserKeepsTheBoard x) {
        x.set(1, 0, 0);
        x.force(0);
    }

    /** An item, where it is 0 .. 99; else NONE. SHEET 3 is used up. */
    static int itemOf(LoserKeepsTheBoard x, int sheet, int i) {
        int all = x.count(0);
        x.sheet(3, sortOf(x, sheet), all);
        for (int other = 1; other < all; other++) {
            x.copy(sheet, i, 3, other, 1);
        }
        return x.tells(3, 0, 4);
    }
}
