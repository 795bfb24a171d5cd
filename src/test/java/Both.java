/** The class and the model side by side: each call is made on both, and must answer the same. */
final class Both {
    private final LoserKeepsTheBoard real = new LoserKeepsTheBoard();
    private final Model model = new Model();
    private int calls;
    private int wrong;

    int calls() {
        return calls;
    }

    int wrong() {
        return wrong;
    }

    int count(int what) {
        return model.count(what);
    }

    void same(String call, int... a) {
        calls++;
        long got = ofReal(call, a);
        long want = ofModel(call, a);
        if (got != want) {
            wrong++;
            System.out.println(call + java.util.Arrays.toString(a) + " answered " + got + ", the model " + want);
        }
    }

    /** All that can be seen, once more: 75 calls at most. */
    void look() {
        for (int what = 0; what < 6; what++) {
            same("count", what);
        }
        for (int thing = 0; thing < 8; thing++) {
            same("told", thing, 1);
        }
        for (int one = 0; one < count(0); one++) {
            for (int what = 2; what < 8; what++) {
                same("told", one, what);
            }
        }
        for (int what = 6; what < 9; what++) {
            same("robin", what);
        }
        same("all", 2);
    }

    private long ofReal(String call, int[] a) {
        switch (call) {
            case "set": return real.set(a[0], a[1], a[2]);
            case "player": return real.player(a[0], a[1]);
            case "told": return real.told(a[0], a[1]);
            case "asks": return real.asks(a[0], a[1], a[2]);
            case "feed": return real.feed(a[0]);
            case "text": return real.text();
            case "force": return real.force(a[0]);
            case "game": return real.game(a[0], a[1]);
            case "evening": return real.evening(a[0], a[1]);
            case "play": return real.play(a[0]);
            case "robin": return real.robin(a[0]);
            case "best": return real.best(a[0], a[1]);
            case "order": return real.order(a[0], a[1]);
            case "all": return real.all(a[0]);
            case "soon": return real.soon(a[0], a[1]);
            case "tells": return real.tells(a[0], a[1], a[2]);
            case "film": return real.film(a[0], a[1]);
            case "drawn": return real.drawn(a[0], a[1], a[2]);
            case "chance": return real.chance(a[0], a[1], a[2], a[3], a[4]);
            case "image": return real.image();
            case "back": return real.back();
            case "count": return real.count(a[0]);
            case "sheet": return real.sheet(a[0], a[1], a[2]);
            case "cell": return real.cell(a[0], a[1], a[2]);
            case "copy": return real.copy(a[0], a[1], a[2], a[3], a[4]);
            case "players": return real.players(a[0], a[1], a[2], a[3]);
            default: return real.taken(a[0], a[1]);
        }
    }

    private long ofModel(String call, int[] a) {
        switch (call) {
            case "set": return model.set(a[0], a[1], a[2]);
            case "player": return model.player(a[0], a[1]);
            case "told": return model.told(a[0], a[1]);
            case "asks": return model.asks(a[0], a[1], a[2]);
            case "feed": return model.feed(a[0]);
            case "text": return model.text();
            case "force": return model.force(a[0]);
            case "game": return model.game(a[0], a[1]);
            case "evening": return model.evening(a[0], a[1]);
            case "play": return model.play(a[0]);
            case "robin": return model.robin(a[0]);
            case "best": return model.best(a[0], a[1]);
            case "order": return model.order(a[0], a[1]);
            case "all": return model.all(a[0]);
            case "soon": return model.soon(a[0], a[1]);
            case "tells": return model.tells(a[0], a[1], a[2]);
            case "film": return model.film(a[0], a[1]);
            case "drawn": return model.drawn(a[0], a[1], a[2]);
            case "chance": return model.chance(a[0], a[1], a[2], a[3], a[4]);
            case "image": return model.image();
            case "back": return model.back();
            case "count": return model.count(a[0]);
            case "sheet": return model.sheet(a[0], a[1], a[2]);
            case "cell": return model.cell(a[0], a[1], a[2]);
            case "copy": return model.copy(a[0], a[1], a[2], a[3], a[4]);
            case "players": return model.players(a[0], a[1], a[2], a[3]);
            default: return model.taken(a[0], a[1]);
        }
    }
}
