/** Many runs of calls, drawn from a counter, on the class and on the model: each answer must be the same. */
public final class ModelTests {
    private static final int RUNS = 1200, CALLS = 512, LAST_LOOK = 75;
    private static final int[] FAR = {
        -1, -2, 6, 7, 8, 9, 10, 40, 41, 60, 61, 99, 100, 255, 256, 998, 999, 1000,
        Integer.MIN_VALUE, Integer.MAX_VALUE, Integer.MIN_VALUE + 1, Integer.MAX_VALUE - 1, 65536, -40, 70000
    };
    private static final String[] PIECES = {
        "strong", "has", "number", "theirs", "round", "stake", "1", "2", "7", "10", "40", "50", "9999", "0"
    };

    private int z;
    private int calls;
    private int wrong;
    private LoserKeepsTheBoard real;
    private Model model;

    private ModelTests(int run) {
        z = run * 2654435 + 17;
        real = new LoserKeepsTheBoard();
        model = new Model();
    }

    public static void main(String[] args) {
        int failed = 0;
        for (int run = 0; run < RUNS; run++) {
            ModelTests test = new ModelTests(run);
            test.run();
            if (test.wrong != 0) {
                failed++;
                System.out.println("run " + run + " went otherwise");
            }
            if (failed > 5) {
                break;
            }
        }
        System.out.println("ModelTests: " + (RUNS - failed) + " passed, " + failed + " failed");
        if (failed != 0) {
            System.exit(1);
        }
    }

    private int pick(int many) {
        z = z * 1664525 + 1013904223;
        return (z >>> 8) % many;
    }

    /** Mostly 0 .. many - 1, now and then far off. */
    private int near(int many) {
        return pick(24) == 0 ? FAR[pick(FAR.length)] : pick(many);
    }

    private int someone() {
        int there = model.count(0);
        return there == 0 ? near(6) : near(there);
    }

    private void run() {
        int first = pick(7);
        for (int i = 0; i < first; i++) {
            same("player", new int[] {pick(6), pick(10)});
        }
        if (pick(3) == 0) {
            same("set", new int[] {0, 0, 990 + pick(10)});
        }
        for (int i = 0; i < 3; i++) {
            act(1);
        }
        while (calls < CALLS - LAST_LOOK && wrong == 0) {
            act(pick(40));
        }
        look();
    }

    private void act(int act) {
        if (act == 0) {
            same("player", new int[] {near(6), near(10)});
        } else if (act == 1) {
            writeText();
        } else if (act == 2) {
            writeEvening();
        } else if (act == 3) {
            writeTold();
        } else if (act < 12) {
            change();
        } else if (act < 18) {
            host();
        } else {
            ask();
        }
    }

    private void change() {
        switch (pick(10)) {
            case 0: case 1: case 2:
                int what = near(4);
                same("set", new int[] {what, what == 1 ? near(8) : someone(),
                    what == 1 ? pick(4) == 0 ? -1 : someone() : near(what == 0 ? 1000 : what == 2 ? 10 : 100)});
                break;
            case 3: case 4: case 5:
                same("game", new int[] {someone(), someone()});
                break;
            case 6:
                same("play", new int[] {near(4)});
                break;
            case 7:
                same("force", new int[] {near(model.count(3))});
                break;
            case 8:
                same("image", new int[] {});
                break;
            default:
                if (pick(2) == 0) {
                    same("back", new int[] {});
                }
        }
    }

    private void host() {
        switch (pick(8)) {
            case 0:
                same("sheet", new int[] {near(4), pick(5) == 0 ? -1 : near(3), pick(3) == 0 ? model.count(0) : near(41)});
                break;
            case 1: case 2:
                same("cell", new int[] {near(4), near(8), pick(2) == 0 ? pick(60) : near(300)});
                break;
            case 3: case 4:
                same("copy", new int[] {near(4), near(6), near(4), near(6), near(8)});
                break;
            case 5:
                same("film", new int[] {near(4), someone()});
                break;
            case 6:
                same("players", new int[] {near(4), near(3), near(12), near(7)});
                break;
            default:
                same("taken", new int[] {someone(), near(6)});
        }
    }

    private void ask() {
        switch (pick(15)) {
            case 0: case 1:
                same("told", new int[] {near(8), near(8)});
                break;
            case 2: case 3: case 4:
                same("asks", new int[] {someone(), someone(), near(6)});
                break;
            case 5: case 6:
                same("evening", new int[] {near(4), near(9)});
                break;
            case 7:
                same("robin", new int[] {near(9)});
                break;
            case 8:
                same("best", new int[] {someone(), near(2)});
                break;
            case 9:
                same("order", new int[] {someone(), near(2)});
                break;
            case 10:
                same("all", new int[] {near(4)});
                break;
            case 11:
                same("soon", new int[] {someone(), someone()});
                break;
            case 12:
                same("tells", new int[] {near(4), someone(), near(9)});
                break;
            case 13:
                same("drawn", new int[] {near(100000) * 65537, someone(), near(61)});
                break;
            default:
                same("chance", new int[] {near(100000) * 65537, 1 + near(20), someone(), near(9), near(2)});
        }
    }

    /** A TEXT by the rules for most of its bytes, now and then with one that is otherwise. */
    private void writeText() {
        StringBuilder text = new StringBuilder();
        String[] keys = {"plays ", "throws ", "tires "};
        for (int i = 0; i < 3; i++) {
            text.append(keys[i]);
            expression(text, i == 1 ? 2 : 3);
            text.append(";");
        }
        if (pick(4) == 0) {
            text.setCharAt(pick(text.length()), "()+-*<=; 09zq@\n\t".charAt(pick(16)));
        }
        if (pick(10) == 0) {
            text.insert(pick(text.length()), "not not not(-(-(");
        }
        if (pick(10) == 0) {
            text.setLength(pick(text.length()));
        }
        if (text.length() > 90 || calls + text.length() > CALLS - LAST_LOOK - 10) {
            return;
        }
        for (int i = 0; i < text.length(); i++) {
            same("feed", new int[] {text.charAt(i)});
        }
        if (pick(8) == 0) {
            same("feed", new int[] {near(256)});
        }
        same("text", new int[] {});
        same("force", new int[] {model.count(3) - 1});
    }

    private void expression(StringBuilder text, int depth) {
        switch (depth == 0 ? 0 : pick(10)) {
            case 1:
                text.append("(");
                expression(text, depth - 1);
                text.append(")");
                break;
            case 2:
                text.append("not ");
                expression(text, depth - 1);
                break;
            case 3:
                text.append("-");
                expression(text, depth - 1);
                break;
            case 4: case 5: case 6: case 7: case 8:
                expression(text, depth - 1);
                text.append(new String[] {" or ", " and ", "<", "=", "+", "-", "*", "+"}[pick(8)]);
                expression(text, depth - 1);
                break;
            default:
                text.append(PIECES[pick(PIECES.length)]);
        }
    }

    private void writeEvening() {
        int sheet = pick(4);
        int many = pick(9);
        same("sheet", new int[] {sheet, pick(3), many});
        int there = Math.max(1, model.count(0));
        for (int i = 0; i < many; i++) {
            int one = pick(there);
            int other = there == 1 ? 0 : (one + 1 + pick(there - 1)) % there;
            same("cell", new int[] {sheet, i, pick(60) == 0 ? near(90) : 10 * one + other});
        }
        for (int i = 0; i < 4; i++) {
            same("evening", new int[] {sheet, pick(3) == 0 ? 6 + pick(3) : pick(there)});
        }
        if (pick(4) == 0) {
            same("play", new int[] {sheet});
        }
    }

    private void writeTold() {
        int sheet = pick(4);
        int one = someone();
        same("film", new int[] {sheet, one});
        if (pick(3) == 0) {
            same("cell", new int[] {sheet, near(6), pick(3) - 1});
        }
        if (pick(3) == 0) {
            change();
        }
        for (int what = 0; what <= 8; what++) {
            same("tells", new int[] {sheet, pick(4) == 0 ? someone() : one, what});
        }
    }

    /** All that can be seen, once more. */
    private void look() {
        for (int what = 0; what < 6; what++) {
            same("count", new int[] {what});
        }
        for (int thing = 0; thing < 8; thing++) {
            same("told", new int[] {thing, 1});
        }
        for (int one = 0; one < model.count(0); one++) {
            for (int what = 2; what < 8; what++) {
                same("told", new int[] {one, what});
            }
        }
        for (int what = 6; what < 9; what++) {
            same("robin", new int[] {what});
        }
        same("all", new int[] {2});
    }

    private void same(String call, int[] a) {
        calls++;
        long got = ofReal(call, a);
        long want = ofModel(call, a);
        if (got != want) {
            wrong++;
            System.out.println(call + java.util.Arrays.toString(a) + " answered " + got + ", the model " + want);
        }
    }

    private long ofReal(String call, int[] a) {
        switch (call) {
            case "set": return real.set(a[0], a[1], a[2]);
            case "player": return real.player(a[0], a[1]);
            case "told": return real.told(a[0], a[1]);
            case "asks": return real.asks(a[0], a[1], a[2]);
            case "feed": return real.feed(a[0]);
            case "text": return real.text();
            case "force": return real.force(a[0]);
            case "game": return real.game(a[0], a[1]);
            case "evening": return real.evening(a[0], a[1]);
            case "play": return real.play(a[0]);
            case "robin": return real.robin(a[0]);
            case "best": return real.best(a[0], a[1]);
            case "order": return real.order(a[0], a[1]);
            case "all": return real.all(a[0]);
            case "soon": return real.soon(a[0], a[1]);
            case "tells": return real.tells(a[0], a[1], a[2]);
            case "film": return real.film(a[0], a[1]);
            case "drawn": return real.drawn(a[0], a[1], a[2]);
            case "chance": return real.chance(a[0], a[1], a[2], a[3], a[4]);
            case "image": return real.image();
            case "back": return real.back();
            case "count": return real.count(a[0]);
            case "sheet": return real.sheet(a[0], a[1], a[2]);
            case "cell": return real.cell(a[0], a[1], a[2]);
            case "copy": return real.copy(a[0], a[1], a[2], a[3], a[4]);
            case "players": return real.players(a[0], a[1], a[2], a[3]);
            default: return real.taken(a[0], a[1]);
        }
    }

    private long ofModel(String call, int[] a) {
        switch (call) {
            case "set": return model.set(a[0], a[1], a[2]);
            case "player": return model.player(a[0], a[1]);
            case "told": return model.told(a[0], a[1]);
            case "asks": return model.asks(a[0], a[1], a[2]);
            case "feed": return model.feed(a[0]);
            case "text": return model.text();
            case "force": return model.force(a[0]);
            case "game": return model.game(a[0], a[1]);
            case "evening": return model.evening(a[0], a[1]);
            case "play": return model.play(a[0]);
            case "robin": return model.robin(a[0]);
            case "best": return model.best(a[0], a[1]);
            case "order": return model.order(a[0], a[1]);
            case "all": return model.all(a[0]);
            case "soon": return model.soon(a[0], a[1]);
            case "tells": return model.tells(a[0], a[1], a[2]);
            case "film": return model.film(a[0], a[1]);
            case "drawn": return model.drawn(a[0], a[1], a[2]);
            case "chance": return model.chance(a[0], a[1], a[2], a[3], a[4]);
            case "image": return model.image();
            case "back": return model.back();
            case "count": return model.count(a[0]);
            case "sheet": return model.sheet(a[0], a[1], a[2]);
            case "cell": return model.cell(a[0], a[1], a[2]);
            case "copy": return model.copy(a[0], a[1], a[2], a[3], a[4]);
            case "players": return model.players(a[0], a[1], a[2], a[3]);
            default: return model.taken(a[0], a[1]);
        }
    }
}
