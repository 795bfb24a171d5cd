import java.util.ArrayList;
import java.util.LinkedHashMap;
import java.util.List;
import java.util.Map;

/** Each call with all combinations of arguments about its bounds and far off, in four states, as the model answers. */
public final class ArgumentsTests {
    private static final int MIN = Integer.MIN_VALUE, MAX = Integer.MAX_VALUE;
    private static final int CALLS = 512, LAST_LOOK = 75;
    private static final int[] ONES = {MIN, -1, 0, 1, 5, 6, MAX};
    private static final int[] PLAYERS = {MIN, -1, 0, 1, 3, 4, 5, 6, 7, MAX};
    private static final int[] SHEETS = {MIN, -1, 0, 1, 2, 3, 4, MAX};
    private static final int[] WHATS = {MIN, -2, -1, 0, 1, 2, 3, 4, 5, 6, 7, 8, 9, 10, MAX};
    private static final int[] PLACES = {MIN, -2, -1, 0, 1, 2, 3, 5, 6, 38, 39, 40, 41, MAX - 1, MAX};
    private static final int[] SEEDS = {MIN, -1, 0, 1, MAX};

    private static final Map<String, int[][]> ARGUMENTS = arguments();

    private ArgumentsTests() {
    }

    private static Map<String, int[][]> arguments() {
        Map<String, int[][]> all = new LinkedHashMap<>();
        all.put("set", new int[][] {{MIN, -1, 0, 1, 2, 3, 4, MAX}, {MIN, -1, 0, 1, 5, 6, 7, 8, 32, MAX},
            {MIN, -2, -1, 0, 1, 5, 6, 9, 10, 99, 100, 998, 999, 1000, MAX}});
        all.put("player", new int[][] {WHATS, {MIN, -1, 0, 1, 9, 10, MAX}});
        all.put("told", new int[][] {{MIN, -1, 0, 1, 5, 6, 7, 8, 32, MAX}, WHATS});
        all.put("asks", new int[][] {PLAYERS, PLAYERS, WHATS});
        all.put("feed", new int[][] {{MIN, -1, 0, 10, 32, 59, 97, 127, 128, 255, 256, MAX}});
        all.put("text", new int[][] {});
        all.put("force", new int[][] {PLAYERS});
        all.put("game", new int[][] {PLAYERS, PLAYERS});
        all.put("evening", new int[][] {SHEETS, WHATS});
        all.put("play", new int[][] {SHEETS});
        all.put("robin", new int[][] {WHATS});
        all.put("best", new int[][] {PLAYERS, ONES});
        all.put("order", new int[][] {PLAYERS, ONES});
        all.put("all", new int[][] {WHATS});
        all.put("soon", new int[][] {PLAYERS, PLAYERS});
        all.put("tells", new int[][] {SHEETS, PLAYERS, WHATS});
        all.put("film", new int[][] {SHEETS, PLAYERS});
        all.put("drawn", new int[][] {SEEDS, PLAYERS, {MIN, -1, 0, 1, 2, 59, 60, 61, MAX}});
        all.put("chance", new int[][] {{-1, MAX}, {MIN, -1, 0, 1, 19, 20, 21, MAX}, ONES, {MIN, -1, 0, 1, 8, 9, MAX},
            {MIN, -1, 0, 1, 2, MAX}});
        all.put("image", new int[][] {});
        all.put("back", new int[][] {});
        all.put("count", new int[][] {WHATS});
        all.put("cell", new int[][] {SHEETS, PLACES, {MIN, -129, -128, -1, 0, 12, 127, 128, 255, 256, 268, 32767, 32768,
            65535, 65536, 65548, MAX}});
        all.put("copy", new int[][] {{-1, 0, 1, 3, 4}, {MIN, -1, 0, 1, 39, 40, 41, MAX}, {-1, 0, 1, 3, 4},
            {MIN, -1, 0, 1, 39, 40, 41, MAX}, {MIN, -1, 0, 1, 40, 41, MAX}});
        all.put("players", new int[][] {SHEETS, {MIN, -1, 0, 1, 2, 3, MAX}, PLACES, {MIN, -1, 0, 1, 6, 7, MAX}});
        all.put("taken", new int[][] {PLAYERS, WHATS});
        all.put("sheet", new int[][] {SHEETS, {MIN, -2, -1, 0, 1, 2, 3, MAX}, PLACES});
        return all;
    }

    public static void main(String[] args) {
        int passed = 0;
        int failed = 0;
        for (Map.Entry<String, int[][]> call : ARGUMENTS.entrySet()) {
            for (int state = 0; state < 4; state++) {
                if (holds(call.getKey(), combinations(call.getValue()), state)) {
                    passed++;
                } else {
                    failed++;
                    System.out.println(call.getKey() + " in state " + state + " went otherwise");
                }
            }
        }
        System.out.println("ArgumentsTests: " + passed + " passed, " + failed + " failed");
        if (failed != 0) {
            System.exit(1);
        }
    }

    private static List<int[]> combinations(int[][] choices) {
        List<int[]> all = new ArrayList<>();
        all.add(new int[] {});
        for (int[] choice : choices) {
            List<int[]> longer = new ArrayList<>();
            for (int[] ahead : all) {
                for (int next : choice) {
                    int[] one = java.util.Arrays.copyOf(ahead, ahead.length + 1);
                    one[ahead.length] = next;
                    longer.add(one);
                }
            }
            all = longer;
        }
        return all;
    }

    private static boolean holds(String call, List<int[]> combinations, int state) {
        Both both = inState(state);
        for (int[] a : combinations) {
            if (both.calls() >= CALLS - LAST_LOOK) {
                both.look();
                if (both.wrong() != 0) {
                    return false;
                }
                both = inState(state);
            }
            both.same(call, a);
        }
        both.look();
        return both.wrong() == 0;
    }

    /** Nobody and nothing; one alone; four, and rows of each sort; all that has a bound at it. */
    private static Both inState(int state) {
        Both both = new Both();
        if (state == 1) {
            both.same("player", 3, 9);
            both.same("set", 1, 7, 0);
            both.same("sheet", 0, 1, 1);
            both.same("image");
        }
        if (state == 2) {
            four(both);
        }
        if (state == 3) {
            full(both);
        }
        return both;
    }

    private static void four(Both both) {
        for (int one = 0; one < 4; one++) {
            both.same("player", one + 1, 9 - one);
            both.same("set", 3, one, 40 + 3 * one);
            both.same("set", 1, 2 * one, one);
        }
        both.same("image");
        feed(both, "plays strong+round;throws has<2;tires stake-2;");
        both.same("text");
        both.same("force", 1);
        feed(both, "plays");
        rows(both, new int[] {12, 1, 30, 23});
    }

    private static void full(Both both) {
        both.same("image");
        for (int one = 0; one < 6; one++) {
            both.same("player", one, 9 - one);
            both.same("set", 3, one, one % 2 == 0 ? 99 : 0);
        }
        for (int i = 0; i < 5; i++) {
            feed(both, "plays 1;throws 0;tires " + i + ";");
            both.same("text");
        }
        both.same("force", 5);
        both.same("set", 0, 0, 998);
        feed(both, "x".repeat(150));
        rows(both, new int[] {54, 45, 10, 1, 20, 2});
    }

    private static void feed(Both both, String text) {
        for (int i = 0; i < text.length(); i++) {
            both.same("feed", text.charAt(i));
        }
    }

    /** The same items as bytes and as ints; forty shorts. */
    private static void rows(Both both, int[] items) {
        both.same("sheet", 0, 0, items.length);
        both.same("sheet", 1, 1, 40);
        both.same("sheet", 2, 2, items.length);
        for (int i = 0; i < items.length; i++) {
            both.same("cell", 0, i, items[i]);
            both.same("cell", 2, i, items[i]);
        }
    }
}
