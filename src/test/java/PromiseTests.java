/** Tests of each of the document's promises; what is due was worked out by hand from its words. */
public final class PromiseTests {
    private static final int NONE = -1, BAD = -2, STATE = -3, FULL = -4;
    private static final int MIN = Integer.MIN_VALUE, MAX = Integer.MAX_VALUE;
    private static final long NO = -4611686018427387904L;
    private static final int PLAYER = 0, MASTER = 1, BOY = 2, CHAMPION = 3, GROOM = 4, WIDOW = 5;
    private static final int HALL = -1;

    private static int passed;
    private static int failed;
    private static String promise;

    private static void due(String what, long got, long want) {
        if (got == want) {
            passed++;
        } else {
            failed++;
            System.out.println(promise + ": " + what + " answered " + got + ", due is " + want);
        }
    }

    public static void main(String[] args) {
        theFace();
        newObject();
        setting();
        playersCome();
        telling();
        askingByKind();
        askingThrows();
        askingOutcomes();
        theTape();
        textFaults();
        textDepth();
        textValues();
        textNames();
        textsAreNumbered();
        forcing();
        games();
        gamesTire();
        strongIsBounded();
        gamesAreCounted();
        evenings();
        eveningsPassTheLastRound();
        playing();
        robins();
        apart();
        rings();
        bests();
        orders();
        alls();
        soons();
        tellsKinds();
        tellsAnswers();
        tellsTexts();
        films();
        drawns();
        chances();
        images();
        counts();
        sheets();
        cells();
        copies();
        playersBySheet();
        takens();
        System.out.println("PromiseTests: " + passed + " passed, " + failed + " failed");
        if (failed != 0) {
            System.exit(1);
        }
    }

    // ---- what the tests share

    private static LoserKeepsTheBoard made(String name) {
        promise = name;
        return new LoserKeepsTheBoard();
    }

    /** Feeds all bytes, and reads them as a TEXT. */
    private static int read(LoserKeepsTheBoard x, String text) {
        for (int i = 0; i < text.length(); i++) {
            x.feed(text.charAt(i));
        }
        return x.text();
    }

    private static LoserKeepsTheBoard madeWith(String name, String rule, int... kinds) {
        LoserKeepsTheBoard x = made(name);
        for (int kind : kinds) {
            x.player(kind, 0);
        }
        if (rule != null) {
            due("text " + rule, read(x, rule), 1);
            x.force(1);
        }
        return x;
    }

    /** Who is stronger wins, and nobody tires. */
    private static LoserKeepsTheBoard plain(String name, int... strong) {
        LoserKeepsTheBoard x = madeWith(name, "plays strong;throws 0;tires 0;", new int[strong.length]);
        for (int i = 0; i < strong.length; i++) {
            x.set(3, i, strong[i]);
        }
        return x;
    }

    private static void give(LoserKeepsTheBoard x, int to, int... things) {
        for (int thing : things) {
            x.set(1, thing, to);
        }
    }

    private static void row(LoserKeepsTheBoard x, int sheet, int sort, int... items) {
        due("sheet", x.sheet(sheet, sort, items.length), 1);
        for (int i = 0; i < items.length; i++) {
            due("cell", x.cell(sheet, i, items[i]), 1);
        }
    }

    // ---- the face

    private static void theFace() {
        promise = "face";
        due("NONE", LoserKeepsTheBoard.NONE, -1);
        due("BAD", LoserKeepsTheBoard.BAD, -2);
        due("STATE", LoserKeepsTheBoard.STATE, -3);
        due("FULL", LoserKeepsTheBoard.FULL, -4);
        due("NO", LoserKeepsTheBoard.NO, NO);
    }

    private static void newObject() {
        LoserKeepsTheBoard x = made("1 a new object");
        int[] counts = {0, 8, 0, 1, 0, 0};
        for (int what = 0; what < counts.length; what++) {
            due("count " + what, x.count(what), counts[what]);
        }
        for (int thing = 0; thing < 8; thing++) {
            due("place of " + thing, x.told(thing, 1), HALL);
        }
        due("told(0, 2)", x.told(0, 2), -1000);
        due("hall", x.robin(6), 255);
        for (int sheet = 0; sheet < 4; sheet++) {
            due("missing " + sheet, x.cell(sheet, 0, 0), -11);
        }
        due("back", x.back(), STATE);
    }

    private static void setting() {
        LoserKeepsTheBoard x = made("2 set");
        x.player(PLAYER, 3);
        due("round", x.set(0, 99, 7), 0);
        due("round", x.set(0, -5, 999), 7);
        due("round above", x.set(0, 0, 1000), -1000);
        due("round below", x.set(0, 0, -1), -1000);
        due("round", x.told(0, 0), 999);
        due("round back", x.set(0, 0, 0), 999);

        due("thing", x.set(1, 7, 0), HALL);
        due("thing again", x.set(1, 7, 0), 0);
        due("has", x.told(0, 6), 128);
        due("hall", x.count(1), 7);
        for (int[] wrong : new int[][] {{8, 0}, {-1, 0}, {MIN, 0}, {MAX, 0}, {0, 1}, {0, -2}, {0, MAX}, {7, 6}, {7, 1}}) {
            due("thing " + wrong[0] + " to " + wrong[1], x.set(1, wrong[0], wrong[1]), -1000);
        }
        due("thing to the hall", x.set(1, 7, NONE), 0);
        due("hall", x.count(1), 8);
        due("thing 0", x.set(1, 0, 0), HALL);
        due("has", x.told(0, 6), 1);

        due("number", x.set(2, 0, 9), 3);
        due("number", x.set(2, 0, 0), 9);
        for (int[] wrong : new int[][] {{0, 10}, {0, -1}, {1, 0}, {-1, 0}, {MAX, 0}, {6, 0}}) {
            due("number " + wrong[0] + ", " + wrong[1], x.set(2, wrong[0], wrong[1]), -1000);
        }
        due("number", x.told(0, 2), 0);

        due("strong", x.set(3, 0, 0), 50);
        due("strong", x.set(3, 0, 99), 0);
        for (int[] wrong : new int[][] {{0, 100}, {0, -1}, {1, 0}, {-1, 0}, {MIN, 0}, {6, 0}}) {
            due("strong " + wrong[0] + ", " + wrong[1], x.set(3, wrong[0], wrong[1]), -1000);
        }
        due("strong", x.told(0, 3), 99);
        for (int what : new int[] {4, 5, -1, MIN, MAX}) {
            due("what " + what, x.set(what, 0, 0), -1000);
        }
    }

    private static void playersCome() {
        LoserKeepsTheBoard x = made("3 player");
        int[][] wrong = {{-1, 0}, {6, 0}, {0, -1}, {0, 10}, {MIN, MAX}, {5, MAX}};
        for (int[] a : wrong) {
            due("player " + a[0] + ", " + a[1], x.player(a[0], a[1]), BAD);
        }
        for (int kind = 0; kind < 6; kind++) {
            due("player " + kind, x.player(kind, 9 - kind), kind);
            due("kind", x.told(kind, 4), kind);
            due("number", x.told(kind, 2), 9 - kind);
            due("strong", x.told(kind, 3), 50);
            due("won", x.told(kind, 5), 0);
            due("has", x.told(kind, 6), 0);
        }
        due("a seventh", x.player(0, 0), FULL);
        due("a bad seventh", x.player(6, 0), BAD);
        due("many", x.count(0), 6);
    }

    private static void telling() {
        LoserKeepsTheBoard x = made("4 told");
        x.player(MASTER, 4);
        x.player(BOY, 8);
        x.set(0, 0, 321);
        x.set(3, 1, 77);
        give(x, 1, 0, 3, 7);
        give(x, 0, 5);
        due("round", x.told(MIN, 0), 321);
        due("thing 3", x.told(3, 1), 1);
        due("thing 5", x.told(5, 1), 0);
        due("thing 6", x.told(6, 1), HALL);
        due("thing 8", x.told(8, 1), -1000);
        due("thing -1", x.told(-1, 1), -1000);
        int[][] told = {{4, 50, 1, 0, 32, 1}, {8, 77, 2, 0, 137, 3}};
        for (int one = 0; one < 2; one++) {
            for (int what = 2; what < 8; what++) {
                due("told " + one + ", " + what, x.told(one, what), told[one][what - 2]);
            }
        }
        for (int what : new int[] {8, -1, MIN, MAX}) {
            due("what " + what, x.told(0, what), -1000);
        }
        for (int one : new int[] {2, 5, 6, -1, MIN, MAX}) {
            for (int what = 2; what < 8; what++) {
                due("told " + one + ", " + what, x.told(one, what), -1000);
            }
        }
    }

    private static void askingByKind() {
        LoserKeepsTheBoard x = madeWith("5 asks, by kind", "plays 41;throws 0;tires 4;", 0, 1, 2, 3, 4, 5);
        x.set(2, 3, 7);
        x.set(2, 4, 5);
        int[] powers = {41, 82, 20, 89, 20, 0};
        int[] won = {4, 0, -4, 1, -7, 0};
        int[] notWon = {4, 4, -4, 5, -7, 0};
        for (int one = 0; one < 6; one++) {
            int other = one == 0 ? 5 : 0;
            due("power of " + one, x.asks(one, other, 0), powers[one]);
            due("power of the other, " + one, x.asks(other, one, 1), powers[one]);
            due("tires, won, " + one, x.asks(one, other, 2), won[one]);
            due("tires, not won, " + one, x.asks(one, other, 3), notWon[one]);
        }
        give(x, 3, 0);
        due("a CHAMPION who has something", x.asks(3, 0, 0), 82);
        x.set(0, 0, 15);
        due("a GROOM in his ROUND", x.asks(4, 0, 0), 70);
        x.set(0, 0, 995);
        due("a GROOM in his ROUND", x.asks(4, 0, 0), 70);
        x.set(0, 0, 50);
        due("a GROOM in another", x.asks(4, 0, 0), 20);

        boundsByKind("plays 0-5;throws 0;tires 99;", new int[] {0, 0, 0, 7, 50, 0}, new int[] {9, 9, -9, 10, -12, 0});
        boundsByKind("plays 100;throws 0;tires -10;", new int[] {99, 198, 49, 205, 99, 0},
            new int[] {-9, -9, 9, -8, 6, 0});
    }

    private static void boundsByKind(String rule, int[] powers, int[] tires) {
        LoserKeepsTheBoard x = madeWith("5 asks, bounds", rule, 0, 1, 2, 3, 4, 5);
        x.set(2, 3, 7);
        for (int one = 0; one < 6; one++) {
            int other = one == 0 ? 5 : 0;
            due(rule + " power of " + one, x.asks(one, other, 0), powers[one]);
            due(rule + " tires " + one, x.asks(one, other, 3), tires[one]);
        }
    }

    private static void askingThrows() {
        LoserKeepsTheBoard x = madeWith("5 asks, throws", "plays 30;throws 0-3;tires 0;", 0, 1, 2, 3, 4, 5);
        x.set(2, 4, 1);
        int[] none = {-1, -1, 15, -1, 15, -1};
        for (int one = 0; one < 6; one++) {
            due("yes, " + one, x.asks(one, one == 0 ? 5 : 0, 0), none[one]);
        }
        give(x, 1, 0, 1, 2);
        due("a MASTER with 3", x.asks(1, 0, 0), -1);
        give(x, 1, 3);
        due("a MASTER with 4", x.asks(1, 0, 0), 60);
        give(x, 3, 4, 5, 6, 7);
        due("a CHAMPION with 4", x.asks(3, 0, 0), 60);
        due("a CHAMPION with 4, the other has any", x.asks(3, 1, 0), -1);
        give(x, HALL, 7);
        due("a CHAMPION with 3", x.asks(3, 0, 0), -1);

        x = madeWith("5 asks, throws not", "plays 30;throws 0;tires 0;", 0, 1, 2, 3, 4, 5);
        x.set(2, 4, 1);
        give(x, 0, 0);
        int[] not = {30, 60, 15, -1, 15, 0};
        for (int one = 0; one < 6; one++) {
            due("no, " + one, x.asks(one, one == 0 ? 5 : 0, 0), not[one]);
        }
        due("a CHAMPION, the other has none", x.asks(3, 1, 0), 60);
    }

    private static void askingOutcomes() {
        LoserKeepsTheBoard x = plain("5 asks, outcomes", 60, 40, 40);
        give(x, 0, 0, 1);
        give(x, 1, 2);
        due("who wins", x.asks(0, 1, 4), 0);
        due("who wins", x.asks(1, 0, 4), 0);
        due("a draw", x.asks(1, 2, 4), NONE);
        due("the winner has then", x.asks(0, 1, 5), 0);
        due("the loser has then", x.asks(1, 0, 5), 8);
        due("one has behind a draw", x.asks(1, 2, 5), 0);
        due("all is as before", x.told(0, 6), 3);
        due("all is as before", x.count(2), 0);
        int[][] wrong = {{0, 0, 0}, {0, 3, 0}, {3, 0, 0}, {-1, 0, 0}, {0, -1, 0}, {0, 1, 6}, {0, 1, -1}, {MAX, MIN, 0}};
        for (int[] a : wrong) {
            due("asks " + a[0] + ", " + a[1] + ", " + a[2], x.asks(a[0], a[1], a[2]), -1000);
        }
    }

    private static void theTape() {
        LoserKeepsTheBoard x = made("6 feed");
        due("below", x.feed(-1), BAD);
        due("above", x.feed(256), BAD);
        due("far above", x.feed(MAX), BAD);
        for (int i = 1; i <= 160; i++) {
            due("feed", x.feed(i == 1 ? 255 : i == 2 ? 0 : 32), i);
        }
        due("one more", x.feed(32), FULL);
        due("a bad one more", x.feed(256), BAD);
        due("bytes", x.count(4), 160);
        due("text", x.text(), -100);
        due("bytes", x.count(4), 0);
        due("feed again", x.feed(32), 1);
    }

    private static void fault(String text, int place) {
        LoserKeepsTheBoard x = made("7 text, faults");
        due("'" + text + "'", read(x, text), -100 - place);
        due("the tape behind '" + text + "'", x.count(4), 0);
        due("texts behind '" + text + "'", x.count(3), 1);
    }

    private static void textFaults() {
        fault("", 0);
        fault("  \n", 3);
        fault("plays", 5);
        fault("plays 1;throws 0;tires 0", 24);
        fault("plays 1;throws 0;tires 0 ", 25);
        fault("plays 1;throws 0;", 17);
        fault("plays 1;throws 0;tires 0;;", 25);
        fault("plays 1;throws 0;tires 0; 7", 26);
        fault("plays 1;throws 0;tires 0; plays", 26);
        fault("Plays 1;", 0);
        fault("throws 1;", 0);
        fault("plays 1;tires 1;", 8);
        fault("plays 1;throws 1;throws 1;", 17);
        fault("playsstrong;", 0);
        fault("play 1;", 0);
        fault("strong", 0);
        fault("plays;", 5);
        fault("plays 12345;", 6);
        fault("plays 00000;", 6);
        fault("plays 1+12345;", 8);
        fault("plays strongs;", 6);
        fault("plays stron;", 6);
        fault("plays 1 won;", 8);
        fault("plays plays", 6);
        fault("plays or", 6);
        fault("plays 1 2", 8);
        fault("plays 1 strong", 8);
        fault("plays 1 not", 8);
        fault("plays 1(2)", 7);
        fault("plays (1;", 8);
        fault("plays (1", 8);
        fault("plays 1);", 7);
        fault("plays ();", 7);
        fault("plays 1+;", 8);
        fault("plays +1;", 6);
        fault("plays 1**2;", 8);
        fault("plays 1<2<3;", 9);
        fault("plays 1=2<3;", 9);
        fault("plays 1<2=3;", 9);
        fault("plays 1<not 2;", 8);
        fault("plays 1+not 2;", 8);
        fault("plays -not 2;", 7);
        fault("plays 1 and;", 11);
        fault("plays 1 or or 2;", 11);
        fault("plays not;", 9);
        fault("plays 1 @", 8);
        fault("plays\t1", 5);
        fault("plays 1\r;", 7);
        fault("plays 1>2;", 7);
        fault("plays 1/2;", 7);
        fault("plays [1];", 6);
        fault("plays {1};", 6);
        fault("plays 1`;", 7);
        fault("plays 1:2;", 7);
        fault("plays " + (char) 233 + ";", 6);
        fault("plays " + (char) 0 + ";", 6);
        fault("plays 1, 2;", 7);
        fault("plays hasx;", 6);
        fault("plays 1;throws has < x;tires 1;", 21);
        fault("plays hasz;", 6);
        fault("plays xas;", 6);
        fault("plays 1;throws 0;or 0;", 17);
        fault("plays 1;throws 0;tires 0;@", 25);
        fault("plays 1;throws 0;tires 0;12345", 25);
        fault("plays 1;throws 0;tires 0;or", 25);
    }

    private static void stands(String text) {
        LoserKeepsTheBoard x = made("7 text, stands");
        due("'" + text + "'", read(x, text), 1);
        due("the tape behind '" + text + "'", x.count(4), 0);
    }

    private static void textDepth() {
        fault("plays ((((((1", 11);
        fault("plays ------1;", 11);
        fault("plays not not not not not not 1;", 26);
        fault("plays not(-(-(1", 13);
        fault("plays not(-(-not 1", 13);
        fault("plays not not not not not -1;", 26);
        fault("plays (((((1)*(((((2", 15);
        fault("plays (((((1+2)+(not 1))+-1;throws ", 17);
        String rest = ";throws 0;tires 0;";
        stands("plays (((((1)))))" + rest);
        stands("plays -----1" + rest);
        stands("plays not not not not not 1" + rest);
        stands("plays 1-1-1-1-1-1-1-1" + rest);
        stands("plays (1)+(1)+(1)+(1)+(1)+(1)+(1)" + rest);
        stands("plays -1+-1+-1+-1+-1+-1+-1" + rest);
        stands("plays -----1--1*-1" + rest);
        stands("plays not 1 or not 1 or not 1 and not 1 or not 1 or not 1" + rest);
        stands("plays not(-(-1))+(((1)))" + rest);
        stands("plays ((((-1+-2*-3))))" + rest);
        stands("plays not not not not(1)" + rest + "\n\n  ");
    }

    private static void value(String expression, int want) {
        LoserKeepsTheBoard x = madeWith("7 text, values", "plays " + expression + ";throws 0;tires 0;", 0, 0);
        due(expression, x.asks(0, 1, 0), want);
    }

    private static void textValues() {
        value("2+3*4", 14);
        value("2*3+4", 10);
        value("20-5-4", 11);
        value("20-(5-4)", 19);
        value("(2+3)*4", 20);
        value("-3+5", 2);
        value("-(3)*-(2)", 6);
        value("2--3", 5);
        value("0012", 12);
        value("7 or 0", 1);
        value("0 or 7", 1);
        value("0 or 0", 0);
        value("2 and 3", 1);
        value("2 and 0", 0);
        value("0 and 2", 0);
        value("2 and 4", 1);
        value("1 or 0 and 0", 1);
        value("not 5", 0);
        value("not 0", 1);
        value("not not 7", 1);
        value("not 1=2", 1);
        value("(not 1)=0", 1);
        value("not 0 and 0", 0);
        value("3<4", 1);
        value("4<4", 0);
        value("5<4", 0);
        value("4=4", 1);
        value("4=5", 0);
        value("1+1=2", 1);
        value("2<1+2", 1);
        value("-1<0", 1);
        value("(3<4)+(4<5)*10", 11);
        for (int inmost = 0; inmost < 2; inmost++) {
            StringBuilder deep = new StringBuilder();
            for (int i = 0; i < 5; i++) {
                deep.append("0 or 1 and 8<4+5*(");
            }
            value(deep.append("0 or 1 and 8<4+5*").append(inmost).append(")))))").toString(), inmost);
        }
        value("(2 and 0)+5", 5);
        value("(2 and 3)+5", 6);
        value("(0 or 0)+5", 5);
        value("(not 3)+5", 5);
        value("(4<3)+5", 5);
        value("(4=3)+5", 5);
        value("9999*9999*9999<0", 1);
        value("9999*9999*9999=-1027*1000*1000-349*1000-969", 1);
        value("8000*8000*8000*4-8000*8000*8000*4+7", 7);
    }

    private static void textNames() {
        LoserKeepsTheBoard x = made("7 text, names");
        x.player(PLAYER, 4);
        x.player(PLAYER, 6);
        x.set(3, 0, 31);
        x.set(3, 1, 62);
        x.set(0, 0, 88);
        give(x, 0, 0, 1, 2);
        give(x, 1, 3);
        String[] names = {"strong", "has", "number", "theirs", "round"};
        int[] of0 = {31, 3, 4, 62, 88};
        int[] of1 = {62, 1, 6, 31, 88};
        for (int i = 0; i < names.length; i++) {
            due(names[i], read(x, "plays " + names[i] + ";throws 0;tires " + names[i] + ";"), i + 1);
            x.force(i + 1);
            due(names[i], x.asks(0, 1, 0), of0[i]);
            due(names[i], x.asks(0, 1, 1), of1[i]);
            due(names[i], x.asks(0, 1, 2), Math.min(9, of0[i]));
        }
        due("one more", x.text(), FULL);
        x = madeWith("7 text, stake", "plays stake*10;throws stake=5;tires stake;", 0, 0, 0);
        give(x, 0, 0, 1, 2);
        give(x, 1, 3);
        due("stake", x.asks(0, 1, 1), 70);
        due("stake throws", x.asks(0, 1, 0), -1);
        due("stake tires", x.asks(1, 0, 3), 7);
        due("stake with nothing at the other", x.asks(1, 2, 0), 40);
    }

    private static void textsAreNumbered() {
        LoserKeepsTheBoard x = made("7 text, numbers");
        String text = "plays 1;throws 0;tires 0;";
        for (int i = 1; i <= 4; i++) {
            due("text", read(x, text), i);
            due("texts", x.count(3), i + 1);
        }
        due("a fault", read(x, "x"), -100);
        due("texts", x.count(3), 5);
        due("text", read(x, text), 5);
        due("no room", read(x, text), FULL);
        due("the tape stays", x.count(4), text.length());
        due("no room, a fault", read(x, "@"), FULL);
        due("the tape stays", x.count(4), text.length() + 1);
    }

    private static void forcing() {
        LoserKeepsTheBoard x = madeWith("8 force", null, 0, 0);
        due("none such", x.force(1), BAD);
        read(x, "plays 7;throws 0;tires 0;");
        due("the rule", x.count(5), 0);
        due("force", x.force(1), 0);
        due("the rule", x.count(5), 1);
        due("power", x.asks(0, 1, 0), 7);
        due("force", x.force(1), 1);
        for (int text : new int[] {2, -1, 6, MIN, MAX}) {
            due("force " + text, x.force(text), BAD);
        }
        due("the rule", x.count(5), 1);
        due("force", x.force(0), 1);
        due("power by TEXT 0", x.asks(0, 1, 0), -1);
        give(x, 0, 4);
        due("power by TEXT 0", x.asks(0, 1, 0), 50);
        due("tires by TEXT 0", x.asks(0, 1, 2), 1);
        due("tires by TEXT 0", x.asks(0, 1, 3), 1);
    }

    private static void games() {
        LoserKeepsTheBoard x = plain("9 game", 60, 40, 40);
        give(x, 0, 0, 1);
        give(x, 1, 2);
        give(x, 2, 7);
        due("game", x.game(0, 1), 0);
        due("the loser has", x.told(1, 6), 127);
        due("the winner has", x.told(0, 6), 0);
        due("others keep", x.told(2, 6), 128);
        due("hall", x.count(1), 0);
        due("round", x.count(2), 1);
        due("won", x.told(0, 5), 1);
        due("won", x.told(1, 5), 0);
        due("a draw", x.game(2, 1), NONE);
        due("hall behind a draw", x.count(1), 8);
        due("has behind a draw", x.told(1, 6) + x.told(2, 6), 0);
        due("nobody won", x.told(1, 5) + x.told(2, 5), 0);
        due("round", x.count(2), 2);
        due("the other wins", x.game(1, 0), 0);
        due("won", x.told(0, 5), 2);
        due("the loser has", x.told(1, 6), 255);
        due("a draw leaves the hall", x.set(1, 0, NONE), 1);
        due("a draw", x.game(1, 2), NONE);
        due("hall", x.robin(6) >= 0 ? x.count(1) : 0, 8);
        int[][] wrong = {{0, 0}, {0, 3}, {3, 0}, {-1, 0}, {0, -1}, {MIN, MAX}};
        for (int[] a : wrong) {
            due("game " + a[0] + ", " + a[1], x.game(a[0], a[1]), BAD);
        }
        x.set(0, 0, 999);
        due("no more rounds", x.game(0, 1), STATE);
        due("no more rounds, no such two", x.game(0, 0), BAD);
        x.set(0, 0, 998);
        due("the last round", x.game(0, 1), 0);
        due("round", x.count(2), 999);

        x = madeWith("9 game, both throw", null, 0, 0);
        due("both throw", x.game(0, 1), NONE);
        due("tired", x.told(0, 3), 49);
        give(x, 1, 3);
        due("one throws", x.game(0, 1), 1);
        due("who threw has all", x.told(0, 6), 255);
    }

    private static void gamesTire() {
        LoserKeepsTheBoard x = madeWith("9 game, tires", "plays number;throws 0;tires 9-has-(strong<5)*20;",
            PLAYER, MASTER, BOY, CHAMPION);
        int[] numbers = {8, 1, 2, 0};
        for (int i = 0; i < 4; i++) {
            x.set(2, i, numbers[i]);
        }
        give(x, 0, 0, 1);
        due("0 wins", x.game(0, 1), 0);
        due("told ahead: 0 had two", x.told(0, 3), 43);
        due("told ahead: 1 had none", x.told(1, 3), 41);
        due("draw", x.set(2, 2, 4), 2);
        due("a draw of MASTER and BOY", x.game(1, 2), NONE);
        due("the MASTER had 8, and did not win", x.told(1, 3), 40);
        due("the BOY tires to more", x.told(2, 3), 59);
        x.set(3, 0, 4);
        x.set(3, 2, 95);
        due("0 wins", x.game(2, 0), 0);
        due("4 and 9", x.told(0, 3), 13);
        due("not above 99", x.told(2, 3), 99);
        x.set(3, 0, 5);
        give(x, HALL, 0, 1, 2, 3, 4, 5, 6, 7);
        due("0 wins", x.game(3, 0), 0);
        due("not below 0", x.told(0, 3), 0);
        due("a CHAMPION tires one more", x.told(3, 3), 40);
        x.set(2, 1, 4);
        due("a MASTER wins", x.game(1, 3), 1);
        due("and does not tire", x.told(1, 3), 40);
        x.set(2, 3, 9);
        give(x, HALL, 0, 1, 2, 3, 4, 5, 6, 7);
        due("a CHAMPION wins", x.game(3, 1), 3);
        due("it was 38 with all 8, and it tires by 1", x.told(3, 3), 37);
    }

    private static void strongIsBounded() {
        LoserKeepsTheBoard x = madeWith("9 game, strong", "plays strong;throws 0;tires number*5-9;", 0, 0);
        x.set(2, 0, 9);
        x.set(2, 1, 9);
        for (int one = 0; one < 2; one++) {
            x.set(3, 0, 6);
            x.set(3, 1, 7);
            due("1 wins", x.game(one, 1 - one), 1);
            due("not below 0", x.told(0, 3) * 100 + x.told(1, 3), 0);
        }
        x.set(2, 0, 0);
        x.set(2, 1, 0);
        for (int one = 0; one < 2; one++) {
            x.set(3, 0, 90);
            x.set(3, 1, 91);
            due("1 wins", x.game(one, 1 - one), 1);
            due("not above 99", x.told(0, 3) * 100 + x.told(1, 3), 9999);
        }
    }

    private static void gamesAreCounted() {
        LoserKeepsTheBoard x = plain("9 game, won", 60, 40);
        int[] games = new int[40];
        java.util.Arrays.fill(games, 10);
        row(x, 0, 0, games);
        for (int i = 0; i < 24; i++) {
            x.play(0);
        }
        due("won", x.told(0, 5), 960);
        due("rounds", x.count(2), 960);
        x.set(0, 0, 0);
        x.play(0);
        due("999 at most", x.told(0, 5), 999);
        due("won", x.game(0, 1), 0);
        due("999 at most", x.told(0, 5), 999);
    }

    private static void evenings() {
        LoserKeepsTheBoard x = plain("10 evening", 10, 20, 30, 20);
        row(x, 0, 0);
        due("nobody has any", x.evening(0, 8), NONE);
        due("hall", x.evening(0, 6), 8);
        row(x, 1, 2, 1, 13);
        due("0 lost first", x.evening(1, 0), 8);
        due("draws", x.evening(1, 7), 1);
        due("most", x.evening(1, 8), 0);
        due("hall", x.evening(1, 6), 0);
        row(x, 2, 1, 21, 13);
        due("1 lost, then drew", x.evening(2, 1), 0);
        due("hall", x.evening(2, 6), 8);
        due("draws", x.evening(2, 7), 1);
        due("nobody", x.evening(2, 8), NONE);
        due("all is as before", x.count(2), 0);
        give(x, 2, 0, 1);
        give(x, 1, 2, 3);
        give(x, 0, 4);
        due("of like ones the first", x.evening(0, 8), 1);
        due("has", x.evening(0, 2), 2);
        due("hall", x.evening(0, 6), 3);
        for (int sheet : new int[] {4, -1, MIN, MAX}) {
            due("sheet " + sheet, x.evening(sheet, 6), BAD);
        }
        due("what is none, of a missing one", x.evening(3, 9), BAD);
        due("what is none", x.evening(0, -1), BAD);
        due("no such player", x.evening(0, 4), BAD);
        due("no such player, of a missing one", x.evening(3, 5), BAD);
        due("missing", x.evening(3, 6), -11);
        for (int item : new int[] {0, 11, 4, 40, 14, 41, -1, -10, -12, 100, 110, 103, MIN, MAX}) {
            row(x, 1, 2, 1, item);
            due("no game: " + item, x.evening(1, 6), BAD);
        }
        x = plain("10 evening, six", 10, 20, 30, 40, 50, 60);
        row(x, 0, 2, 54);
        due("5 and 4", x.evening(0, 4), 8);
        row(x, 0, 2, 45);
        due("4 and 5", x.evening(0, 4), 8);
        row(x, 1, 0, 1, 256 + 12);
        due("a byte's lowest bits are a game", x.evening(1, 7), 0);
        row(x, 1, 1, 65536 + 13);
        due("a short's lowest bits are a game", x.evening(1, 1), 8);
    }

    private static void eveningsPassTheLastRound() {
        LoserKeepsTheBoard x = madeWith("10 evening, in thought", "plays 0;throws 0;tires 0;", GROOM, BOY, PLAYER);
        x.set(0, 0, 999);
        row(x, 0, 0, 12, 1);
        due("ROUND 1000: the GROOM plays 50", x.evening(0, 7), 1);
        due("and loses the hall to 1", x.evening(0, 1), 8);
        due("round", x.count(2), 999);
    }

    private static void playing() {
        LoserKeepsTheBoard x = plain("11 play", 10, 20, 30, 20);
        row(x, 0, 0);
        due("no games", x.play(0), 0);
        row(x, 1, 2, 1, 13, 31);
        due("two draws", x.play(1), 2);
        due("has", x.told(0, 6), 255);
        due("rounds", x.count(2), 3);
        due("won", x.told(1, 5), 1);
        for (int sheet : new int[] {4, -1, MIN, MAX}) {
            due("sheet " + sheet, x.play(sheet), BAD);
        }
        due("missing", x.play(3), -11);
        for (int item : new int[] {0, 11, 4, 40, -1, 110, MIN, MAX}) {
            row(x, 2, 2, 1, 12, item);
            due("no game: " + item, x.play(2), BAD);
        }
        due("nothing was played", x.count(2), 3);
        x.set(0, 0, 997);
        due("ROUND would be 1000", x.play(1), STATE);
        due("none of it was played", x.count(2), 997);
        row(x, 2, 2, 1, 12, 0);
        due("no game ahead of STATE", x.play(2), BAD);
        x.set(0, 0, 996);
        due("ROUND is 999", x.play(1), 2);
        due("round", x.count(2), 999);
        due("no games", x.play(0), 0);
    }

    private static void robins() {
        LoserKeepsTheBoard x = plain("12 robin", 20, 10, 15);
        give(x, 2, 0, 5);
        give(x, 0, 1);
        due("0 gives to 1, and 2; 1 to none", x.robin(0), 0);
        due("1 has what 2 had", x.robin(1), 255);
        due("2 won against 1", x.robin(2), 0);
        due("hall", x.robin(6), 0);
        due("all is as before", x.told(2, 6), 33);
        for (int what : new int[] {3, 5, 9, -1, MIN, MAX}) {
            due("robin " + what, x.robin(what), BAD);
        }
        x = plain("12 robin, a draw", 30, 20, 20);
        due("all is in the hall", x.robin(6), 255);
        due("the order matters", x.robin(1) + x.robin(2), 0);
        x = made("12 robin, nobody");
        due("hall", x.robin(6), 255);
        due("apart", x.robin(7), NONE);
        due("ring", x.robin(8), 0);
        due("robin 0", x.robin(0), BAD);
    }

    private static void apart() {
        LoserKeepsTheBoard x = plain("12 robin, apart", 30, 20, 20);
        due("apart", x.robin(7), 12);
        x = plain("12 robin, apart", 20, 20);
        due("no fewer", x.robin(7), NONE);
        give(x, 0, 3);
        due("0 and 1", x.robin(7), 1);
        x = plain("12 robin, apart", 30, 20, 10);
        due("none in the hall at all", x.robin(7), NONE);
        x = plain("12 robin, apart", 20, 20, 20);
        give(x, 0, 0, 1, 2);
        give(x, 1, 3, 4);
        give(x, 2, 5);
        due("each draw brings all there: none leaves fewer", x.robin(7), NONE);
        due("0 with 3 leaves none, 1 with 3 too, 2 with 3 three of 8",
            tiring(new int[] {14, 12, 11, 13}, new int[] {0, 0, 0, 1}, 2, 3, -1, -1, 1, 3, 0, 3).robin(7), 3);
        due("0 with 1 leaves 4 of 5, 0 with 2 none",
            tiring(new int[] {14, 13, 14, 14}, new int[] {3, 0, 1, 1}, 1, 0, 1, 2, 1, 3, 1, 2).robin(7), 2);
    }

    /** Who is stronger wins; all tire by their NUMBERS; THING i is at places[i]'s. */
    private static LoserKeepsTheBoard tiring(int[] strong, int[] numbers, int... places) {
        LoserKeepsTheBoard x = madeWith(promise, "plays strong;throws 0;tires number;", new int[strong.length]);
        for (int i = 0; i < strong.length; i++) {
            x.set(3, i, strong[i]);
            x.set(2, i, numbers[i]);
        }
        for (int thing = 0; thing < places.length; thing++) {
            give(x, places[thing], thing);
        }
        return x;
    }

    private static void rings() {
        LoserKeepsTheBoard x = madeWith("12 robin, ring", "plays number*10+10=theirs;throws 0;tires 0;", 0, 0, 0);
        int[] strong = {10, 20, 30};
        for (int i = 0; i < 3; i++) {
            x.set(3, i, strong[i]);
            x.set(2, i, (i + 1) % 3);
        }
        due("0 beats 1, 1 beats 2, 2 beats 0", x.robin(8), 1);
        for (int i = 0; i < 3; i++) {
            x.set(2, i, (i + 2) % 3);
        }
        due("the other way round", x.robin(8), 1);
        x.set(2, 0, 9);
        due("one is drawn", x.robin(8), 0);
        due("no ring", plain("12 robin, ring", 10, 20, 30).robin(8), 0);
        x = madeWith("12 robin, rings", "plays theirs-strong=1 or theirs-strong=2 or strong-theirs=3 or strong-theirs=4;"
            + "throws 0;tires 0;", 0, 0, 0, 0, 0);
        for (int i = 0; i < 5; i++) {
            x.set(3, i, i + 1);
        }
        due("of five, each beats the next two: five rings", x.robin(8), 5);
    }

    private static void bests() {
        LoserKeepsTheBoard x = plain("13 best", 30, 40, 10, 50);
        give(x, 0, 0);
        give(x, 1, 1, 2);
        give(x, 3, 3, 4, 5);
        due("with 3", x.best(0, 0), 3);
        due("one, three, and the hall", x.best(0, 1), 6);
        due("others", x.best(2, 0), 3);
        due("others", x.best(2, 1), 5);
        due("3 wins each: the first", x.best(3, 0), 0);
        due("and has none", x.best(3, 1), 0);
        due("all is as before", x.told(0, 6), 1);
        for (int[] a : new int[][] {{4, 0}, {-1, 0}, {MAX, 0}, {0, 2}, {0, -1}, {0, MIN}}) {
            due("best " + a[0] + ", " + a[1], x.best(a[0], a[1]), BAD);
        }
        x = plain("13 best, alone", 30);
        due("nobody", x.best(0, 0), NONE);
        due("nobody", x.best(0, 1), NONE);
    }

    private static void orders() {
        LoserKeepsTheBoard x = plain("14 order", 30, 40, 10, 50);
        give(x, 1, 1, 2);
        give(x, 3, 3, 4, 5);
        due("2 wins each order", x.order(2, 1), 8);
        due("2 loses to all: the first", x.order(2, 0), 124);
        due("0 wins against 2: that one ahead", x.order(0, 0), 324);
        due("and has what 1 and 3 had; 2 has the hall", x.order(0, 1), 5);
        due("3 wins each", x.order(3, 1), 0);
        due("3 wins each", x.order(3, 0), 123);
        due("1", x.order(1, 0), 134);
        due("all is as before", x.told(1, 6), 6);
        for (int[] a : new int[][] {{4, 0}, {-1, 0}, {MAX, 0}, {0, 2}, {0, -1}, {0, MIN}}) {
            due("order " + a[0] + ", " + a[1], x.order(a[0], a[1]), BAD);
        }
        x = plain("14 order, alone", 30);
        due("nobody", x.order(0, 0), 0);
        due("nobody", x.order(0, 1), 0);
        give(x, 0, 1, 2);
        due("what one has", x.order(0, 1), 2);
        x = plain("14 order, six", 99, 50, 60, 70, 80, 10);
        due("all lose to 0 but in the end", x.order(5, 0), 12345);
        due("all", x.order(5, 1), 8);
        due("none", x.order(0, 0), 23456);
    }

    private static void alls() {
        LoserKeepsTheBoard x = plain("15 all", 10, 20, 30);
        due("0 games", x.all(0), 0);
        due("1 game: 0 and 1 can lose", x.all(1), 3);
        due("2 games", x.all(2), 3);
        due("3 games", x.all(3), 3);
        give(x, 2, 0, 1, 2, 3, 4, 5, 6, 7);
        due("0 games or fewer count", x.all(0), 4);
        due("1 game", x.all(1), 7);
        give(x, 0, 0);
        give(x, 1, 1);
        due("none has all", x.all(0), 0);
        due("1 game is not enough", x.all(1), 0);
        due("2 games: 0 loses to both", x.all(2), 1);
        for (int n : new int[] {-1, 4, MIN, MAX}) {
            due("all " + n, x.all(n), BAD);
        }
        x.player(PLAYER, 0);
        give(x, 3, 2);
        due("three games gather from four", x.all(3), 1);
        due("two don't", x.all(2), 0);
        x.player(PLAYER, 0);
        due("five", x.all(3), STATE);
        due("five, 2", x.all(2), 0);
        due("five, 4", x.all(4), BAD);
        due("nobody", made("15 all, nobody").all(3), 0);
    }

    private static void soons() {
        LoserKeepsTheBoard x = madeWith("16 soon", "plays strong;throws 0;tires number;", 0, 0);
        x.set(3, 0, 60);
        x.set(2, 1, 2);
        due("now", x.soon(0, 1), 0);
        give(x, 0, 3);
        x.set(3, 1, 97);
        due("97 - 2 * 19 is less than 60: at the 20th", x.soon(0, 1), 20);
        x.set(3, 1, 99);
        due("the 21st is too late", x.soon(0, 1), NONE);
        x.set(3, 1, 98);
        due("60 is drawn: at the 20th", x.soon(0, 1), 20);
        x.set(3, 1, 59);
        due("at once", x.soon(0, 1), 1);
        due("the other has nothing", x.soon(1, 0), 0);
        due("all is as before", x.told(0, 6), 8);
        for (int[] a : new int[][] {{0, 0}, {0, 2}, {2, 0}, {-1, 0}, {0, -1}, {MAX, MIN}}) {
            due("soon " + a[0] + ", " + a[1], x.soon(a[0], a[1]), BAD);
        }
    }

    private static void tellsKinds() {
        LoserKeepsTheBoard x = madeWith("17 tells, kinds", "plays 40;throws 0;tires 0;", 0, 0);
        x.set(2, 0, 3);
        x.set(0, 0, 13);
        int[][] told = {{40, 1}, {80, 2}, {20, 4}, {83, 8}, {70, 16}, {0, 32}, {-1, 0}};
        for (int[] a : told) {
            row(x, 0, 2, 0, a[0]);
            due("kinds by " + a[0], x.tells(0, 0, 1), a[1]);
            due("first otherwise by " + a[0], x.tells(0, 0, 0), a[0] == 40 ? NONE : 1);
        }
        row(x, 0, 2, 5, 40);
        due("against oneself: 0", x.tells(0, 0, 0), 0);
        due("against oneself: 0", x.tells(0, 0, 1), 0);
        x = madeWith("17 tells, numbers", "plays 40+number*2;throws number=6;tires 0;", GROOM, 0);
        x.set(0, 0, 4);
        row(x, 0, 0, 0, 24);
        due("number 4 is a GROOM's with 50 more", x.tells(0, 0, 2), 0);
        row(x, 0, 0, 0, 74);
        due("number 4", x.tells(0, 0, 2), 16);
        row(x, 0, 0, 0, 29);
        due("number 9", x.tells(0, 0, 2), 512);
        due("its own number is another", x.tells(0, 0, 0), 1);
        due("and still is", x.told(0, 2), 0);
        row(x, 0, 0, 24, 0);
        due("no number, against oneself", x.tells(0, 0, 2), 0);
        x = madeWith("17 tells, any number", null, PLAYER, 0);
        due("film", x.film(0, 0), 2);
        due("any", x.tells(0, 0, 2), 1023);
    }

    private static void tellsAnswers() {
        LoserKeepsTheBoard x = madeWith("17 tells", "plays strong+round*2;throws strong<3;tires 0;", 0, 0, 0);
        x.set(3, 0, 20);
        x.set(0, 0, 10);
        x.set(3, 2, 20);
        due("film", x.film(0, 0), 3);
        due("as it is", x.tells(0, 0, 0), NONE);
        due("strong: one", x.tells(0, 0, 3), 1);
        due("strong: the least", x.tells(0, 0, 4), 20);
        due("rounds: one", x.tells(0, 0, 5), 1);
        due("rounds: the least", x.tells(0, 0, 6), 10);
        due("players: itself alone", x.tells(0, 0, 8), 1);
        due("one of like strength is told otherwise at itself", x.tells(0, 2, 0), 0);
        row(x, 1, 1, 0, 99, 99);
        due("otherwise at 1", x.tells(1, 0, 0), 1);
        due("strong 79 and more", x.tells(1, 0, 3), 21);
        due("strong 79", x.tells(1, 0, 4), 79);
        due("rounds 40 and more", x.tells(1, 0, 5), 60);
        due("rounds 40", x.tells(1, 0, 6), 40);
        due("players", x.tells(1, 0, 8), 0);
        row(x, 1, 1, 0, -1, -1);
        due("strong 0 to 2 throws", x.tells(1, 0, 3), 3);
        due("strong 0", x.tells(1, 0, 4), 0);
        due("no round", x.tells(1, 0, 5), 0);
        due("no round", x.tells(1, 0, 6), NONE);
        row(x, 1, 1, 0, 1, 99);
        due("no strength", x.tells(1, 0, 3), 0);
        due("no strength", x.tells(1, 0, 4), NONE);
        due("all is as before", x.told(0, 3) * 1000 + x.count(2), 20010);
        row(x, 1, 1, 0, 40, 50);
        due("otherwise at 2", x.tells(1, 0, 0), 2);
        LoserKeepsTheBoard y = madeWith("17 tells, no 100", "plays strong+round-50;throws 0;tires 0;", 0, 0);
        y.set(3, 0, 0);
        row(y, 0, 1, 0, 50);
        for (int what = 3; what <= 6; what++) {
            due("of 0 .. 99 none: " + what, y.tells(0, 0, what), what % 2 == 1 ? 0 : NONE);
        }
        row(y, 0, 1, 0, 49);
        for (int what = 3; what <= 6; what++) {
            due("99: " + what, y.tells(0, 0, what), what % 2 == 1 ? 1 : 99);
        }

        for (int[] a : new int[][] {{4, 0, 0}, {-1, 0, 0}, {0, 3, 0}, {0, -1, 0}, {0, 0, 9}, {0, 0, -1}, {MAX, MIN, 3}}) {
            due("tells " + a[0] + ", " + a[1] + ", " + a[2], x.tells(a[0], a[1], a[2]), BAD);
        }
        due("missing", x.tells(3, 0, 0), -11);
        due("missing, none such", x.tells(3, 3, 0), BAD);
        due("missing, what", x.tells(3, 0, 9), BAD);
        row(x, 2, 1, 0, 40);
        due("it tells fewer", x.tells(2, 0, 0), BAD);
        row(x, 2, 1, 0, 40, 40, 40);
        due("it tells more", x.tells(2, 0, 0), BAD);
    }

    private static void tellsTexts() {
        LoserKeepsTheBoard x = madeWith("17 tells, texts", null, 0, 0, 0);
        give(x, 0, 0);
        read(x, "plays theirs;throws 0;tires 0;");
        read(x, "plays strong+1;throws 0;tires 0;");
        read(x, "plays 50;throws 0;tires 0;");
        row(x, 0, 1, 0, 50, 50);
        due("TEXTS 0, 1 and 3", x.tells(0, 0, 7), 11);
        row(x, 0, 1, 0, 51, 51);
        due("TEXT 2", x.tells(0, 0, 7), 4);
        due("the rule is as before", x.count(5), 0);
        x.force(3);
        row(x, 0, 1, 50, 0, 50);
        due("of 1 it is so", x.tells(0, 0, 8), 2);
        due("of 1 it is so", x.tells(0, 1, 0), NONE);
    }

    private static void films() {
        LoserKeepsTheBoard x = madeWith("18 film", "plays 99;throws theirs=7;tires 0;", MASTER, 0, 0);
        x.set(3, 2, 7);
        row(x, 0, 0, 1, 2, 3, 4, 5);
        give(x, 0, 0);
        due("film", x.film(0, 0), 3);
        due("shorts", x.players(0, 1, 0, 0), 0);
        due("three items", x.cell(0, 3, 0), -12);
        due("as told", x.tells(0, 0, 0), NONE);
        row(x, 1, 1, 0, 198, -1);
        due("0, 198 and thrown", x.tells(1, 0, 0), NONE);
        due("a missing one becomes", x.film(2, 1), 3);
        for (int[] a : new int[][] {{4, 0}, {-1, 0}, {MAX, 0}, {0, 3}, {0, -1}, {0, MIN}}) {
            due("film " + a[0] + ", " + a[1], x.film(a[0], a[1]), BAD);
        }
        due("nothing came of it", x.tells(0, 0, 0), NONE);
    }

    private static void drawns() {
        LoserKeepsTheBoard x = plain("19 drawn", 10, 20, 30);
        due("no games", x.drawn(1, 0, 0), 0);
        due("seed 1: 1 with 0, and 0 loses", x.drawn(1, 0, 1), 255);
        due("1 has nothing", x.drawn(1, 1, 1), 0);
        for (int[] a : new int[][] {{3, 0}, {-1, 0}, {MAX, 0}, {0, 61}, {0, -1}, {0, MIN}}) {
            due("drawn " + a[0] + ", " + a[1], x.drawn(1, a[0], a[1]), BAD);
        }
        for (int n = 0; n <= 60; n += 15) {
            for (int seed : new int[] {0, 5, -7, MIN, MAX}) {
                due("seed " + seed + ", " + n, x.drawn(seed, 0, n), drawnByHand(seed, n, 3, 0));
            }
        }
        due("all is as before", x.count(2), 0);
        x = plain("19 drawn, two", 10, 20);
        due("two play", x.drawn(3, 0, 1), 255);
        x = plain("19 drawn, six", 10, 20, 30, 40, 50, 60);
        for (int n = 0; n <= 8; n++) {
            for (int one = 0; one < 6; one++) {
                due("six, " + n + ", " + one, x.drawn(77, one, n), drawnByHand(77, n, 6, one));
            }
        }
        x = plain("19 drawn, alone", 10);
        give(x, 0, 2);
        due("nobody to play with", x.drawn(1, 0, 60), 4);
    }

    /** What one of so many has at last, of whom each that comes later is stronger. */
    private static int drawnByHand(int seed, int n, int many, int one) {
        int[] has = new int[many];
        int hall = 255;
        int z = seed;
        for (int i = 0; i < n; i++) {
            z = z * 1103515245 + 12345;
            int a = (z >>> 9) % many;
            int b = (a + 1 + (z >>> 17) % (many - 1)) % many;
            int loser = Math.min(a, b);
            int winner = Math.max(a, b);
            has[loser] |= has[winner] | hall;
            has[winner] = 0;
            hall = 0;
        }
        return has[one];
    }

    private static void chances() {
        LoserKeepsTheBoard x = plain("20 chance", 10, 20, 30, 40, 50, 60);
        for (int seed : new int[] {0, 100, -3, MAX - 2}) {
            for (int m = 1; m <= 20; m++) {
                for (int one = 0; one < 3; one++) {
                    int above = 0;
                    for (int i = 0; i < m; i++) {
                        above += drawnByHand(seed + i, 6, 6, one) == 255 ? 1 : 0;
                    }
                    int shared = java.math.BigInteger.valueOf(above).gcd(java.math.BigInteger.valueOf(m)).intValue();
                    due("above " + seed + ", " + m, x.chance(seed, m, one, 8, 0), above / shared);
                    due("below " + seed + ", " + m, x.chance(seed, m, one, 8, 1), m / shared);
                }
            }
        }
        x = plain("20 chance", 10, 20, 30);
        due("0 or more: all", x.chance(0, 20, 1, 0, 0), 1);
        due("0 or more: all", x.chance(0, 20, 1, 0, 1), 1);
        due("the strongest has nothing", x.chance(0, 20, 2, 1, 0), 0);
        due("0 of 20 is 0 of 1", x.chance(0, 20, 2, 1, 1), 1);
        int[][] wrong = {{0, 0, 0, 0}, {21, 0, 0, 0}, {-1, 0, 0, 0}, {MIN, 0, 0, 0}, {1, 3, 0, 0}, {1, -1, 0, 0},
            {1, MAX, 0, 0}, {1, 0, 9, 0}, {1, 0, -1, 0}, {1, 0, 0, 2}, {1, 0, 0, -1}};
        for (int[] a : wrong) {
            due("chance " + java.util.Arrays.toString(a), x.chance(0, a[0], a[1], a[2], a[3]), NO);
        }
    }

    private static void images() {
        LoserKeepsTheBoard x = madeWith("21 image, 22 back", null, MASTER, PLAYER);
        due("none yet", x.back(), STATE);
        read(x, "plays strong;throws 0;tires 3;");
        give(x, 0, 1);
        give(x, 1, 2);
        x.set(2, 0, 7);
        x.set(3, 0, 80);
        x.set(0, 0, 17);
        x.game(0, 1);
        due("image", x.image(), 2);
        int[] kept = seen(x);
        read(x, "plays 1;throws 0;tires 0;");
        x.force(1);
        x.feed(32);
        x.sheet(1, 0, 2);
        x.player(BOY, 1);
        x.set(2, 0, 1);
        x.set(0, 0, 500);
        x.game(1, 2);
        give(x, 2, 0, 1, 2, 3);
        due("back", x.back(), 2);
        int[] now = seen(x);
        for (int i = 0; i < kept.length; i++) {
            due("seen " + i, now[i], kept[i]);
        }
        due("rule", x.count(5), 0);
        due("texts stay", x.count(3), 3);
        due("the tape stays", x.count(4), 1);
        due("sheets stay", x.cell(1, 1, 1), 1);
        due("who came since is gone", x.told(2, 3), -1000);
        x.game(0, 1);
        x.player(WIDOW, 5);
        due("back once more", x.back(), 2);
        due("strong", x.told(0, 3), kept[1]);
        due("one comes anew", x.player(CHAMPION, 5), 2);
        due("kind", x.told(2, 4), CHAMPION);
        due("image", x.image(), 3);
        x.force(2);
        due("image with a rule", x.image(), 3);
        x.force(0);
        due("back", x.back(), 3);
        due("the rule", x.count(5), 2);
    }

    private static int[] seen(LoserKeepsTheBoard x) {
        int[] seen = new int[14];
        for (int one = 0; one < 2; one++) {
            for (int what = 2; what < 8; what++) {
                seen[6 * one + what - 2] = x.told(one, what);
            }
        }
        seen[12] = x.count(1);
        seen[13] = x.count(2);
        return seen;
    }

    private static void counts() {
        LoserKeepsTheBoard x = madeWith("23 count", "plays 1;throws 0;tires 0;", 0, 0, 0);
        give(x, 1, 5, 6);
        x.set(0, 0, 44);
        x.feed(1);
        x.feed(2);
        int[] counts = {3, 6, 44, 2, 2, 1};
        for (int what = 0; what < 6; what++) {
            due("count " + what, x.count(what), counts[what]);
        }
        for (int what : new int[] {6, -1, MIN, MAX}) {
            due("count " + what, x.count(what), BAD);
        }
    }

    private static void sheets() {
        LoserKeepsTheBoard x = made("24 sheet");
        for (int sheet : new int[] {4, -1, MIN, MAX}) {
            due("sheet " + sheet, x.sheet(sheet, 0, 1), BAD);
            due("sheet " + sheet + " missing", x.sheet(sheet, -1, 1), BAD);
        }
        for (int sort : new int[] {3, -2, MIN, MAX}) {
            due("sort " + sort, x.sheet(0, sort, 1), BAD);
            due("sort " + sort + ", below 0", x.sheet(0, sort, -1), BAD);
        }
        due("above 40", x.sheet(0, 0, 41), BAD);
        due("far above 40", x.sheet(0, 2, MAX), BAD);
        due("below 0", x.sheet(0, 0, -1), -14);
        due("far below 0", x.sheet(0, 1, MIN), -14);
        due("still missing", x.cell(0, 0, 0), -11);
        due("forty", x.sheet(3, 2, 40), 1);
        due("the last", x.cell(3, 39, 5), 1);
        due("behind the last", x.cell(3, 40, 5), -12);
        due("none", x.sheet(0, 0, 0), 1);
        due("of none", x.cell(0, 0, 0), -12);
        x.player(0, 0);
        x.player(0, 0);
        row(x, 1, 2, 1);
        due("a game", x.evening(1, 7), 1);
        due("anew", x.sheet(1, 2, 1), 1);
        due("all 0 is no game", x.evening(1, 7), BAD);
        row(x, 2, 0, 5, 5);
        due("anew", x.sheet(2, 0, 2), 1);
        due("0 and 0", x.players(2, 0, 0, 1), 1);
        due("kind 0", x.told(2, 4), 0);
        due("number 0", x.told(2, 2), 0);
        due("missing", x.sheet(1, -1, 99), 1);
        due("missing", x.evening(1, 7), -11);
        due("missing, below 0", x.sheet(1, -1, -99), 1);
    }

    private static void cells() {
        LoserKeepsTheBoard x = madeWith("25 cell", null, 0, 0);
        for (int sheet : new int[] {4, -1, MIN, MAX}) {
            due("cell of " + sheet, x.cell(sheet, 0, 0), BAD);
        }
        due("missing", x.cell(0, 0, 0), -11);
        due("missing, outside", x.cell(0, -1, 0), -11);
        x.sheet(0, 1, 2);
        for (int i : new int[] {2, -1, MIN, MAX}) {
            due("item " + i, x.cell(0, i, 0), -12);
        }
        due("cell", x.cell(0, 1, 1), 1);
        due("item 0 stays", x.evening(0, 6), BAD);
        due("cell", x.cell(0, 0, 1), 1);
        due("two games", x.evening(0, 6), 8);
        int[][] cut = {{0, 257, 1}, {0, 255, -1}, {0, 128, -128}, {1, 65537, 1}, {1, 65535, -1}, {1, 32768, -32768},
            {1, 257, 257}, {2, 65537, 65537}, {2, MIN, MIN}, {2, MAX, MAX}, {0, -127, -127}, {0, 127, 127}};
        for (int[] a : cut) {
            due("sort " + a[0] + " holds " + a[1], held(a[0], a[1], a[2]), 1);
        }
    }

    /** Is v, put into a row of that sort, the game 0 with 1 (want 1), thrown POWER (-1), or neither? */
    private static int held(int sort, int v, int want) {
        LoserKeepsTheBoard x = madeWith("25 cell, sorts", null, 0, 0);
        row(x, 0, sort, v);
        row(x, 1, sort, 0, v);
        boolean isGame = x.evening(0, 7) == 1;
        boolean isThrown = x.tells(1, 0, 0) == NONE;
        return isGame == (want == 1) && isThrown == (want == -1) ? 1 : 0;
    }

    private static void copies() {
        LoserKeepsTheBoard x = made("26 copy");
        x.image();
        row(x, 0, 1, 1, 2, 3, 4, 5, 0);
        row(x, 1, 1, 0, 0, 0, 0);
        row(x, 2, 0, 1, 1);
        due("to another", x.copy(0, 4, 1, 1, 2), 2);
        due("and one", x.copy(0, 1, 1, 3, 1), 1);
        due("items", digits(x, 1, 4), 502);
        due("as it was", digits(x, 0, 6), 123450);
        due("over itself, on", x.copy(0, 0, 0, 1, 5), 5);
        due("items", digits(x, 0, 6), 112345);
        due("over itself, back", x.copy(0, 2, 0, 0, 4), 4);
        due("items", digits(x, 0, 6), 234545);
        row(x, 3, 1, 0, 0, 0, 0, 0, 0);
        due("all", x.copy(0, 0, 3, 0, 6), 6);
        due("items", digits(x, 3, 6), 234545);
        row(x, 3, 1, 0, 0, 0, 0, 0, 0);
        due("none, at the end", x.copy(0, 6, 3, 6, 0), 0);
        int[][] outside = {{-1, 0, 1}, {0, -1, 1}, {0, 0, -1}, {0, 0, 7}, {6, 0, 1}, {0, 6, 1}, {7, 0, 0}, {0, 7, 0},
            {1, 0, 6}, {0, 1, 6}, {MAX, 0, 1}, {0, MAX, 1}, {1, 1, MAX}, {MIN, 0, MAX}, {0, 0, MIN}, {MAX, MAX, MAX}};
        for (int[] a : outside) {
            due("copy " + java.util.Arrays.toString(a), x.copy(0, a[0], 3, a[1], a[2]), -12);
        }
        due("nothing came", digits(x, 3, 6), 0);
        x.sheet(1, -1, 0);
        for (int sheet : new int[] {4, -1, MIN, MAX}) {
            due("copy of " + sheet, x.copy(sheet, 0, 1, 0, 0), BAD);
            due("copy to " + sheet, x.copy(1, 0, sheet, 0, 0), BAD);
        }
        due("of a missing one", x.copy(1, 0, 0, 0, -1), -11);
        due("to a missing one", x.copy(0, -1, 1, 0, 0), -11);
        due("of unlike sorts", x.copy(0, 0, 2, 0, 0), -13);
        due("of unlike sorts, outside", x.copy(2, 0, 0, 0, -1), -13);
    }

    /** The first n items (0 .. 5) of a row of shorts, one digit each; the IMAGE has no PLAYERS, so they go again. */
    private static int digits(LoserKeepsTheBoard x, int sheet, int n) {
        int digits = 0;
        for (int i = 0; i < n; i += 2) {
            due("a pair", x.players(sheet, 1, i, 1), 1);
            digits = digits * 100 + x.told(0, 4) * 10 + x.told(0, 2);
            due("gone again", x.back(), 0);
        }
        return digits;
    }

    private static void playersBySheet() {
        LoserKeepsTheBoard x = made("27 players");
        row(x, 0, 1, 9, 0, 9, 6, 0, 5, 1, 0, 10, 2);
        for (int sheet : new int[] {4, -1, MIN, MAX}) {
            due("players of " + sheet, x.players(sheet, 0, 0, 1), BAD);
        }
        for (int sort : new int[] {3, -1, MIN, MAX}) {
            due("sort " + sort, x.players(0, sort, 0, 1), BAD);
        }
        for (int n : new int[] {7, -1, MIN, MAX}) {
            due("n " + n, x.players(0, 1, 0, n), BAD);
            due("n " + n + " of a missing one", x.players(1, 1, 0, n), BAD);
        }
        due("missing", x.players(1, 1, 0, 1), -11);
        due("missing, none asked", x.players(1, 2, 99, 0), -11);
        due("another sort", x.players(0, 0, 1, 1), -13);
        due("another sort, none asked", x.players(0, 2, 99, 0), -13);
        due("none asked, none is outside", x.players(0, 1, 99, 0), 0);
        for (int from : new int[] {-1, -2, 10, 9, MIN, MAX, MAX - 1}) {
            due("from " + from, x.players(0, 1, from, 1), -12);
        }
        due("nobody came", x.count(0), 0);
        due("0 9, not 6 0, 5 1, not 0 10", x.players(0, 1, 1, 4), 2);
        due("kind", x.told(1, 4), WIDOW);
        due("number", x.told(0, 2), 9);
        due("number", x.told(1, 2), 1);
        due("half a pair at the end", x.players(0, 1, 5, 3), -12);
        due("what stood ahead came", x.count(0), 3);
        row(x, 1, 0, 256, 258, 3, 3, 2, 2, 1, 1, 0, 0);
        due("three more have room", x.players(1, 0, 0, 5), 3);
        due("a byte's lowest bits", x.told(3, 4), PLAYER);
        due("a byte's lowest bits", x.told(3, 2), 2);
        due("full, and outside", x.players(1, 0, 6, 3), -12);
        due("full", x.players(1, 0, 0, 5), 0);
    }

    private static void takens() {
        LoserKeepsTheBoard x = made("28 taken");
        boolean[][] under = {
            {true, false, false, false, false, false}, {true, true, false, false, false, false},
            {true, false, true, false, false, false}, {true, true, false, true, false, false},
            {true, false, true, false, true, false}, {true, false, false, false, false, true}
        };
        for (int kind = 0; kind < 6; kind++) {
            due("missing", x.taken(kind, 0), -11);
            x.player(kind, kind + 3);
            for (int k = 0; k < 6; k++) {
                due("a " + kind + " for a " + k, x.taken(kind, k), under[kind][k] ? kind + 3 : -13);
            }
        }
        for (int k : new int[] {6, -1, MIN, MAX}) {
            due("kind " + k, x.taken(0, k), BAD);
            due("kind " + k + " of nobody", x.taken(9, k), BAD);
        }
        for (int one : new int[] {6, -1, MIN, MAX}) {
            due("player " + one, x.taken(one, 0), -11);
        }
    }
}
