/** Many runs of calls, drawn from a counter, on the class and on the model: each answer must be the same. */
public final class ModelTests {
    private static final int RUNS = 1200, CALLS = 512, LAST_LOOK = 75;
    private static final int[] FAR = {
        -1, -2, 6, 7, 8, 9, 10, 40, 41, 60, 61, 99, 100, 255, 256, 998, 999, 1000,
        Integer.MIN_VALUE, Integer.MAX_VALUE, Integer.MIN_VALUE + 1, Integer.MAX_VALUE - 1, 65536, -40, 70000
    };
    private static final String[] PIECES = {
        "strong", "has", "number", "theirs", "round", "stake", "1", "2", "7", "10", "40", "50", "9999", "0"
    };

    private final Both both = new Both();
    private int z;

    private ModelTests(int run) {
        z = run * 2654435 + 17;
    }

    public static void main(String[] args) {
        int failed = 0;
        for (int run = 0; run < RUNS; run++) {
            ModelTests test = new ModelTests(run);
            test.run();
            if (test.both.wrong() != 0) {
                failed++;
                System.out.println("run " + run + " went otherwise");
            }
            if (failed > 5) {
                break;
            }
        }
        System.out.println("ModelTests: " + (RUNS - failed) + " passed, " + failed + " failed");
        if (failed != 0) {
            System.exit(1);
        }
    }

    private int pick(int many) {
        z = z * 1664525 + 1013904223;
        return (z >>> 8) % many;
    }

    /** Mostly 0 .. many - 1, now and then far off. */
    private int near(int many) {
        return pick(24) == 0 ? FAR[pick(FAR.length)] : pick(many);
    }

    private int someone() {
        int there = both.count(0);
        return there == 0 ? near(6) : near(there);
    }

    private void run() {
        int first = pick(7);
        for (int i = 0; i < first; i++) {
            both.same("player", pick(6), pick(10));
        }
        if (pick(3) == 0) {
            both.same("set", 0, 0, 990 + pick(10));
        }
        for (int i = 0; i < 3; i++) {
            act(1);
        }
        while (both.calls() < CALLS - LAST_LOOK && both.wrong() == 0) {
            act(pick(40));
        }
        both.look();
    }

    private void act(int act) {
        if (act == 0) {
            both.same("player", near(6), near(10));
        } else if (act == 1) {
            writeText();
        } else if (act == 2) {
            writeEvening();
        } else if (act == 3) {
            writeTold();
        } else if (act < 12) {
            change();
        } else if (act < 18) {
            host();
        } else {
            ask();
        }
    }

    private void change() {
        switch (pick(10)) {
            case 0: case 1: case 2:
                int what = near(4);
                both.same("set", what, what == 1 ? near(8) : someone(),
                    what == 1 ? pick(4) == 0 ? -1 : someone() : near(what == 0 ? 1000 : what == 2 ? 10 : 100));
                break;
            case 3: case 4: case 5:
                both.same("game", someone(), someone());
                break;
            case 6:
                both.same("play", near(4));
                break;
            case 7:
                both.same("force", near(both.count(3)));
                break;
            case 8:
                both.same("image");
                break;
            default:
                if (pick(2) == 0) {
                    both.same("back");
                }
        }
    }

    private void host() {
        switch (pick(8)) {
            case 0:
                both.same("sheet", near(4), pick(5) == 0 ? -1 : near(3), pick(3) == 0 ? both.count(0) : near(41));
                break;
            case 1: case 2:
                both.same("cell", near(4), near(8), pick(2) == 0 ? pick(60) : near(300));
                break;
            case 3: case 4:
                both.same("copy", near(4), near(6), near(4), near(6), near(8));
                break;
            case 5:
                both.same("film", near(4), someone());
                break;
            case 6:
                both.same("players", near(4), near(3), near(12), near(7));
                break;
            default:
                both.same("taken", someone(), near(6));
        }
    }

    private void ask() {
        switch (pick(15)) {
            case 0: case 1:
                both.same("told", near(8), near(8));
                break;
            case 2: case 3: case 4:
                both.same("asks", someone(), someone(), near(6));
                break;
            case 5: case 6:
                both.same("evening", near(4), near(9));
                break;
            case 7:
                both.same("robin", near(9));
                break;
            case 8:
                both.same("best", someone(), near(2));
                break;
            case 9:
                both.same("order", someone(), near(2));
                break;
            case 10:
                both.same("all", near(4));
                break;
            case 11:
                both.same("soon", someone(), someone());
                break;
            case 12:
                both.same("tells", near(4), someone(), near(9));
                break;
            case 13:
                both.same("drawn", near(100000) * 65537, someone(), near(61));
                break;
            default:
                both.same("chance", near(100000) * 65537, 1 + near(20), someone(), near(9), near(2));
        }
    }

    /** A TEXT by the rules for most of its bytes, now and then with one that is otherwise. */
    private void writeText() {
        StringBuilder text = new StringBuilder();
        String[] keys = {"plays ", "throws ", "tires "};
        for (int i = 0; i < 3; i++) {
            text.append(keys[i]);
            expression(text, i == 1 ? 2 : 3);
            text.append(";");
        }
        if (pick(4) == 0) {
            text.setCharAt(pick(text.length()), "()+-*<=; 09zq@\n\t".charAt(pick(16)));
        }
        if (pick(10) == 0) {
            text.insert(pick(text.length()), "not not not(-(-(");
        }
        if (pick(10) == 0) {
            text.setLength(pick(text.length()));
        }
        if (text.length() > 90 || both.calls() + text.length() > CALLS - LAST_LOOK - 10) {
            return;
        }
        for (int i = 0; i < text.length(); i++) {
            both.same("feed", text.charAt(i));
        }
        if (pick(8) == 0) {
            both.same("feed", near(256));
        }
        both.same("text");
        both.same("force", both.count(3) - 1);
    }

    private void expression(StringBuilder text, int depth) {
        switch (depth == 0 ? 0 : pick(10)) {
            case 1:
                text.append("(");
                expression(text, depth - 1);
                text.append(")");
                break;
            case 2:
                text.append("not ");
                expression(text, depth - 1);
                break;
            case 3:
                text.append("-");
                expression(text, depth - 1);
                break;
            case 4: case 5: case 6: case 7: case 8:
                expression(text, depth - 1);
                text.append(new String[] {" or ", " and ", "<", "=", "+", "-", "*", "+"}[pick(8)]);
                expression(text, depth - 1);
                break;
            default:
                text.append(PIECES[pick(PIECES.length)]);
        }
    }

    private void writeEvening() {
        int sheet = pick(4);
        int many = pick(9);
        both.same("sheet", sheet, pick(3), many);
        int there = Math.max(1, both.count(0));
        for (int i = 0; i < many; i++) {
            int one = pick(there);
            int other = there == 1 ? 0 : (one + 1 + pick(there - 1)) % there;
            both.same("cell", sheet, i, pick(60) == 0 ? near(90) : 10 * one + other);
        }
        for (int i = 0; i < 4; i++) {
            both.same("evening", sheet, pick(3) == 0 ? 6 + pick(3) : pick(there));
        }
        if (pick(4) == 0) {
            both.same("play", sheet);
        }
    }

    private void writeTold() {
        int sheet = pick(4);
        int one = someone();
        both.same("film", sheet, one);
        if (pick(3) == 0) {
            both.same("cell", sheet, near(6), pick(3) - 1);
        }
        if (pick(3) == 0) {
            change();
        }
        for (int what = 0; what <= 8; what++) {
            both.same("tells", sheet, pick(4) == 0 ? someone() : one, what);
        }
    }
}
