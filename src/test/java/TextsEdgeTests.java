/** The boundaries of promises 6 to 8: feed, text, force; a test for each sentence. */
public final class TextsEdgeTests {
    public static void main(String[] args) {
        feeds();
        tapeOfTexts();
        textsAreMany();
        tokens();
        wordsAndNumbers();
        signsAndBlanks();
        grammar();
        grammarOfOne();
        names();
        values();
        faults();
        faultsOfTokens();
        open();
        opensEnd();
        forces();
        Edge.end("TextsEdgeTests", 6, 8);
    }

    // ---- what these tests share

    private static void fault(int place, String... texts) {
        for (String text : texts) {
            LoserKeepsTheBoard x = new LoserKeepsTheBoard();
            Edge.due("'" + text + "'", Edge.read(x, text), -100 - place);
            Edge.due("THE TAPE behind '" + text + "'", x.count(4), 0);
            Edge.due("TEXTS behind '" + text + "'", x.count(3), 1);
        }
    }

    private static void stands(String... texts) {
        for (String text : texts) {
            LoserKeepsTheBoard x = new LoserKeepsTheBoard();
            Edge.due("'" + text + "'", Edge.read(x, text), 1);
            Edge.due("THE TAPE behind '" + text + "'", x.count(4), 0);
        }
    }

    /** What an expression comes to, 0 .. 99, of PLAYER 0 against 1, each as he comes. */
    private static void value(int want, String... expressions) {
        for (String expression : expressions) {
            LoserKeepsTheBoard x = new LoserKeepsTheBoard();
            Edge.come(x, 0, 0);
            Edge.rule(x, "plays " + expression + Edge.REST);
            Edge.due(expression, x.asks(0, 1, 0), want);
        }
    }

    private static String times(int many, String text) {
        return text.repeat(many);
    }

    // ---- 6 feed

    private static void feeds() {
        Edge.test(6, "A byte (0 .. 255) comes behind THE TAPE: how many it has.", x -> {
            Edge.due("the first", x.feed(0), 1);
            for (int letter : new int[] {-1, 256, Edge.MIN, Edge.MAX}) {
                Edge.due("byte " + letter, x.feed(letter), Edge.BAD);
                Edge.due("bytes", x.count(4), 1);
            }
            Edge.due("the last", x.feed(255), 2);
        });
        Edge.test(6, "THE TAPE (160 bytes at most)", x -> {
            for (int i = 1; i <= 160; i++) {
                Edge.due("byte", x.feed(32), i);
            }
            Edge.due("one more", x.feed(32), Edge.FULL);
            Edge.due("bytes", x.count(4), 160);
        });
        Edge.test(6, "BAD; FULL.", x -> {
            Edge.read(x, "");
            for (int i = 1; i <= 160; i++) {
                x.feed(i);
            }
            Edge.due("below, and full", x.feed(-1), Edge.BAD);
            Edge.due("above, and full", x.feed(256), Edge.BAD);
            Edge.due("the first byte, and full", x.feed(0), Edge.FULL);
            Edge.due("the last byte, and full", x.feed(255), Edge.FULL);
        });
        Edge.test(6, "they change nothing", x -> {
            Edge.changesNothing(Edge.BAD, Edge::lively, y -> y.feed(-1), y -> y.feed(256), y -> y.feed(Edge.MIN));
            Edge.changesNothing(Edge.FULL, y -> {
                Edge.come(y, 0, 0);
                for (char letter : fullText().toCharArray()) {
                    y.feed(letter);
                }
            }, y -> y.feed(0), y -> y.feed(';'), y -> y.feed('@'), y -> y.feed(255));
        });
    }

    /** A TEXT that is as long as THE TAPE. */
    private static String fullText() {
        String ends = "plays 7" + Edge.REST;
        return "plays " + times(160 - ends.length(), " ") + "7" + Edge.REST;
    }

    // ---- 7 text: THE TAPE, its number, how many

    private static void tapeOfTexts() {
        Edge.test(7, "THE TAPE, which is empty then (by a FAULT, too), is a TEXT", x -> {
            Edge.due("a TEXT", Edge.read(x, Edge.PLAIN), 1);
            Edge.due("empty", x.count(4), 0);
            Edge.due("a FAULT", Edge.read(x, Edge.PLAIN + "@" + Edge.PLAIN), -100 - Edge.PLAIN.length());
            Edge.due("empty", x.count(4), 0);
            Edge.due("nothing is left of it", Edge.read(x, "plays"), -105);
            Edge.due("an empty one", x.text(), -100);
            Edge.due("a byte", x.feed('p'), 1);
            Edge.due("a TEXT", Edge.read(x, Edge.PLAIN.substring(1)), 2);
        });
        Edge.test(7, "THE TAPE (160 bytes at most)", x -> {
            Edge.due("as long as can be", fullText().length(), 160);
            Edge.due("it stands", Edge.read(x, fullText()), 1);
            String sums = "plays 1" + times(68, "+1") + ";throws 0;tires 0;";
            Edge.due("a long one", sums.length(), 161);
            Edge.due("its last byte has no room", Edge.read(x, sums), -100 - 160);
            Edge.rule(x, sums.replace(" 0;t", "0;t"));
            Edge.come(x, 0, 0);
            Edge.due("all of it counts", x.asks(0, 1, 0), 69);
        });
        Edge.test(7, "-100 less the place of its FAULT", x -> {
            fault(0, "", "@", "x" + times(159, " "));
            fault(159, times(159, " ") + "@", times(159, "\n") + "x");
            fault(160, times(160, " "), (" " + fullText()).substring(0, 160));
        });
    }

    private static void textsAreMany() {
        Edge.test(7, "There are 6 TEXTS at most, TEXT 0 with them.", x -> {
            for (int number = 1; number <= 5; number++) {
                Edge.due("its number", Edge.read(x, Edge.PLAIN), number);
                Edge.due("TEXTS", x.count(3), number + 1);
            }
            Edge.due("a seventh", Edge.read(x, Edge.PLAIN), Edge.FULL);
            Edge.due("TEXTS", x.count(3), 6);
        });
        Edge.test(7, "is a TEXT: its number", x -> {
            Edge.due("FAULTS are not counted", Edge.read(x, "x"), -100);
            Edge.due("the first", Edge.read(x, Edge.PLAIN), 1);
            Edge.due("FAULTS are not counted", Edge.read(x, "plays"), -105);
            Edge.due("the next", Edge.read(x, Edge.PLAIN), 2);
        });
        Edge.test(7, "FULL (ahead of all): no TEXT more has room (THE TAPE stays).", x -> {
            for (int number = 1; number <= 5; number++) {
                Edge.due("its number", Edge.read(x, "plays 1;throws 0;tires 0;"), number);
            }
            Edge.due("an empty TAPE", x.text(), Edge.FULL);
            Edge.due("a TEXT", Edge.read(x, Edge.PLAIN), Edge.FULL);
            Edge.due("THE TAPE stays", x.count(4), Edge.PLAIN.length());
            Edge.due("a FAULT", Edge.read(x, "@"), Edge.FULL);
            Edge.due("THE TAPE stays", x.count(4), Edge.PLAIN.length() + 1);
            Edge.due("the next byte", x.feed(32), Edge.PLAIN.length() + 2);
        });
        Edge.test(7, "they change nothing", x -> Edge.changesNothing(Edge.FULL, y -> {
            Edge.come(y, 0, 1);
            for (int number = 1; number <= 5; number++) {
                Edge.rule(y, "plays " + number + Edge.REST);
            }
            y.force(2);
            y.feed('p');
        }, y -> y.text()));
    }

    // ---- 7 text: TOKENS

    private static void tokens() {
        Edge.test(7, "TOKENS, each as long as can be", x -> {
            stands("plays1;throws0;tires0;", "plays 1or 2and 3;throws not(1);tires-1;");
            fault(0, "playsstrong;", "play1;");
            fault(6, "plays notstrong;", "plays stronghas;", "plays strongor 1;", "plays hasand 1;");
            fault(7, "plays 1strong;", "plays 1not 1;");
            fault(12, "plays strong1;", "plays number1;");
            stands("plays strong or1;throws 0;tires 0;", "plays 1<-1;throws 0;tires 0;");
        });
    }

    private static void wordsAndNumbers() {
        Edge.test(7, "WORDS (a .. z)", x -> {
            fault(6, "plays a;", "plays z;", "plays `;", "plays {;", "plays A;", "plays Z;", "plays _;");
            fault(6, "plays zhas;", "plays hasz;", "plays ahas;", "plays hasa;", "plays hashas;");
            fault(9, "plays has`;", "plays has{;", "plays hasA;", "plays hasZ;", "plays has_;",
                "plays has" + (char) 225);
        });
        Edge.test(7, "NUMBERS (as many digits as stand there, 4 at most)", x -> {
            stands("plays 0;throws 9;tires 0000;", "plays 9999;throws 1234;tires 0001;");
            fault(6, "plays 00000;", "plays 12345;", "plays 99999;", "plays " + times(150, "1"), "plays /;",
                "plays :;");
            fault(7, "plays 1/;", "plays 1:;");
            fault(10, "plays 1234/;", "plays 1234:;");
            fault(11, "plays 1234 5;", "plays 0000 0;");
            value(1, "9999=5000*2-1", "0009=9", "0000=0", "1000=999+1");
        });
        Edge.test(7, "WORDS (a .. z), NUMBERS", x -> {
            fault(0, "0plays 1;", "9", "/plays 1;");
            value(90, "90", "09*10", "0090");
        });
    }

    private static void signsAndBlanks() {
        Edge.test(7, "SIGNS ( ) ; + - * < =", x -> {
            stands("plays(1)+1-1*1<1;throws 1=1;tires 0;");
            String signs = "()+-*<=;";
            for (int letter = 0; letter < 256; letter++) {
                boolean isOther = letter == 32 || letter == 10 || signs.indexOf(letter) >= 0
                    || letter >= 'a' && letter <= 'z' || letter >= '0' && letter <= '9';
                if (!isOther) {
                    fault(8, "plays 1 " + (char) letter + ";");
                    fault(6, "plays " + (char) letter + "1;");
                }
            }
        });
        Edge.test(7, "blanks (32, 10) may stand between", x -> {
            stands("  \n plays\n1 \n;throws 0 ; tires\n\n0\n;\n ", "plays ( - 1 ) ;throws 0;tires 0;");
            fault(5, "plays" + (char) 9 + "1;", "plays" + (char) 11 + "1;", "plays" + (char) 13 + "1;",
                "plays" + (char) 31 + "1;", "plays" + (char) 33 + "1;", "plays" + (char) 0 + "1;",
                "plays" + (char) 160 + "1;");
            fault(0, "pl ays 1;", "play\ns 1;", (char) 9 + "plays 1;", (char) 11 + "plays 1;");
            fault(8, "plays 1 2;", "plays 1\n2;");
            fault(25, "plays 1;throws 0;tires 0;" + (char) 9, "plays 1;throws 0;tires 0;" + (char) 13);
        });
    }

    // ---- 7 text: what may stand where

    private static void grammar() {
        Edge.test(7, "TEXT: plays E ; throws E ; tires E ;", x -> {
            stands("plays 1;throws 0;tires 0;");
            fault(0, "throws 0;", "tires 0;", "1;", ";", "or", "strong", "(plays 1;");
            fault(5, "plays", "plays;");
            fault(7, "plays 1", "plays 1)", "plays 1,");
            fault(8, "plays 1;", "plays 1;plays 1;", "plays 1;tires 0;", "plays 1;;", "plays 1;1;");
            fault(14, "plays 1;throws", "plays 1;throws;");
            fault(17, "plays 1;throws 0;", "plays 1;throws 0;throws 0;", "plays 1;throws 0;plays 0;");
            fault(22, "plays 1;throws 0;tires", "plays 1;throws 0;tires;");
            fault(24, "plays 1;throws 0;tires 0");
            fault(25, "plays 1;throws 0;tires 0;;", "plays 1;throws 0;tires 0;plays 1;", "plays 1;throws 0;tires 0;1");
        });
        Edge.test(7, "E: AND { or AND }", x -> {
            stands("plays 1 or 2;throws 0 or 0 or 0;tires 0 or" + times(20, " 1 or") + " 0;");
            fault(6, "plays or 1;", "plays or");
            fault(10, "plays 1 or", "plays 1 or;");
            fault(11, "plays 1 or or 1;", "plays 1 or and 1;", "plays 1 or )");
            value(1, "1 or 0 and 0", "0 and 0 or 1");
        });
        Edge.test(7, "AND: NOT { and NOT }", x -> {
            stands("plays 1 and 2;throws 0 and 0 and 0;tires 0 and" + times(15, " 1 and") + " 0;");
            fault(6, "plays and 1;", "plays and");
            fault(11, "plays 1 and", "plays 1 and;");
            fault(12, "plays 1 and and 1;", "plays 1 and or 1;");
            value(0, "not 1 and 0", "not 0 and 0", "(0 or 1) and 0");
        });
        Edge.test(7, "NOT: not NOT, or SUM, perhaps < or = and a SUM", x -> {
            stands("plays not not 1<2;throws 1=2;tires 1;");
            fault(9, "plays not", "plays not;", "plays 1<2<3;", "plays 1<2=3;", "plays 1=2<3;", "plays 1=2=3;");
            fault(8, "plays 1<;", "plays 1=;", "plays 1<<2;", "plays 1<=2;", "plays 1=<2;", "plays 1<not 2;");
            fault(6, "plays <1;", "plays =1;");
            value(1, "not 1=2", "(1<2)<3", "(not 1)<1", "0=(not 1)");
        });
    }

    private static void grammarOfOne() {
        Edge.test(7, "SUM: TERM { + or - TERM }", x -> {
            stands("plays 1+1-1+1-1;throws 0;tires 0;");
            fault(6, "plays +1;", "plays +");
            fault(8, "plays 1+", "plays 1+;", "plays 1+not 1;", "plays 1++1;", "plays 1-+1;", "plays 1-)");
            value(3, "9-5-1", "9-(5+1)", "1--2", "1+2");
        });
        Edge.test(7, "TERM: ONE { * ONE }", x -> {
            stands("plays 1*1*1*1;throws 0;tires 0;");
            fault(6, "plays *1;", "plays *");
            fault(8, "plays 1*", "plays 1*;", "plays 1**1;", "plays 1*+1;", "plays 1*not 1;");
            value(14, "2+3*4", "4*3+2", "2*-3+20", "-2*3+20");
        });
        Edge.test(7, "ONE: a NUMBER, a NAME, - ONE, ( E )", x -> {
            stands("plays (1 or 2 and not 3<4);throws -(1);tires --stake;");
            fault(7, "plays -", "plays -;", "plays ()", "plays -not 1;", "plays (;", "plays (", "plays -*1;");
            fault(8, "plays (1", "plays (1;", "plays 1 1;", "plays 1 (1);");
            fault(9, "plays (1 1);", "plays (1 (1));");
            fault(7, "plays 1);", "plays 1(1);");
            value(5, "-(-5)", "--5", "(((5)))", "-5+10");
        });
        Edge.test(7, "plays, throws, tires, or, and, not are KEYS", x -> {
            fault(6, "plays plays;", "plays throws;", "plays tires;", "plays or;", "plays and;");
            fault(8, "plays 1 plays;", "plays 1 throws;", "plays 1 tires;", "plays 1 not 1;");
            String[] keys = {"plays", "throws", "tires", "or", "and", "not"};
            String[] ahead = {"", "plays 1;", "plays 1;throws 0;", "plays 1 ", "plays 1 ", "plays "};
            for (int i = 0; i < keys.length; i++) {
                for (String other : withAnotherLetter(keys[i])) {
                    fault(ahead[i].length(), ahead[i] + other + " 1;");
                }
            }
        });
    }

    /** A word as often as it has letters, each time with another letter that is none of its own. */
    private static String[] withAnotherLetter(String word) {
        String[] others = new String[word.length()];
        for (int i = 0; i < others.length; i++) {
            others[i] = word.substring(0, i) + "q" + word.substring(i + 1);
        }
        return others;
    }

    private static void names() {
        Edge.test(7, "NAMES are strong has number theirs round stake", x -> {
            for (String name : new String[] {"strong", "has", "number", "theirs", "round", "stake"}) {
                stands("plays " + name + ";throws " + name + ";tires " + name + ";");
                fault(6, "plays " + name.substring(1) + ";", "plays " + name.substring(0, name.length() - 1) + ";",
                    "plays " + name + "s;", "plays s" + name + ";");
                for (String other : withAnotherLetter(name)) {
                    fault(6, "plays " + other + ";");
                }
            }
        });
        Edge.test(7, "has: how many THINGS one HAS; number: NUMBER; theirs: how STRONG the other one is", x -> {
            Edge.come(x, 0, 0);
            Edge.rule(x, "plays strong;throws 0;tires 0;");
            Edge.rule(x, "plays theirs;throws 0;tires 0;");
            Edge.rule(x, "plays has;throws 0;tires 0;");
            Edge.rule(x, "plays number;throws 0;tires 0;");
            x.set(3, 0, 0);
            x.set(3, 1, 99);
            x.set(2, 1, 9);
            Edge.give(x, 1, Edge.ALL_THINGS);
            int[][] least = {{0, 99}, {99, 0}, {0, 8}, {0, 9}};
            for (int i = 0; i < 4; i++) {
                x.force(i + 1);
                Edge.due("of 0 by " + (i + 1), x.asks(0, 1, 0), least[i][0]);
                Edge.due("of 1 by " + (i + 1), x.asks(0, 1, 1), least[i][1]);
            }
        });
        Edge.test(7, "round: ROUND", x -> {
            Edge.come(x, 0, 0);
            Edge.rule(x, "plays round-900;throws 0;tires round;");
            x.set(0, 0, 999);
            Edge.due("999", x.asks(0, 1, 0), 99);
            x.set(0, 0, 900);
            Edge.due("900", x.asks(0, 1, 0), 0);
            x.set(0, 0, 0);
            Edge.due("0", x.asks(0, 1, 2), 0);
        });
        Edge.test(7, "stake: how many THINGS the other one HAS and THE HALL, together", x -> {
            Edge.come(x, 0, 0, 0);
            Edge.rule(x, "plays stake;throws 0;tires 0;");
            Edge.due("all in THE HALL", x.asks(0, 1, 0), 8);
            Edge.give(x, 1, Edge.ALL_THINGS);
            Edge.due("all at the other's", x.asks(0, 1, 0), 8);
            Edge.due("all at one's own", x.asks(0, 1, 1), 0);
            Edge.due("all at a third's", x.asks(0, 2, 0), 0);
            Edge.give(x, Edge.HALL, 0, 1);
            Edge.give(x, 0, 2);
            Edge.due("both", x.asks(0, 1, 0), 7);
            Edge.due("both", x.asks(0, 1, 1), 3);
        });
    }

    // ---- 7 text: what an E comes to

    private static void values() {
        Edge.test(7, "An E is an int (32 bits, wrapping)", x -> {
            String two31 = "8192*8192*32";
            value(1, two31 + "<0", two31 + "-1=" + two31 + "+-1", "0<" + two31 + "-1", "-(" + two31 + ")=" + two31,
                "8192*8192*64=0", two31 + "+" + two31 + "=0", "0-" + two31 + "=" + two31, "9999*9999*9999<0");
            value(0, "0<" + two31, two31 + "=0", two31 + "<" + two31, two31 + "-1<0");
            value(99, two31 + "-1");
        });
        Edge.test(7, "of or, and, not, <, = 1 or 0 (what is not 0 is true)", x -> {
            value(1, "0 or 7", "7 or 0", "-7 or 0", "2 and 4", "-1 and 8192*8192*32", "not 0", "not not 9",
                "not not -1", "1<2", "-2<-1", "3=3", "0 or -1", "8192*8192*32 or 0");
            value(0, "0 or 0", "0 and 7", "7 and 0", "not 1", "not -1", "not 8192*8192*32", "2<1", "1<1", "1=2",
                "8192*8192*64 or 0", "1 and 8192*8192*64");
            value(6, "(7 or 8)+5", "(7 and 8)+5", "(not 0)+5", "(7<8)+5", "(7=7)+5");
            value(5, "(0 or 0)+5", "(7 and 0)+5", "(not 7)+5", "(8<8)+5", "(7=8)+5");
        });
        Edge.test(7, "plays (0 .. 99, else the bound), throws, tires (-9 .. 9, else the bound)", x -> {
            Edge.come(x, 0, 0);
            Edge.rule(x, "plays 100;throws 0;tires 10;");
            Edge.due("above", x.asks(0, 1, 0) * 100 + x.asks(0, 1, 2), 9909);
            Edge.rule(x, "plays 99;throws 0;tires 9;");
            Edge.due("the most", x.asks(0, 1, 0) * 100 + x.asks(0, 1, 2), 9909);
            Edge.rule(x, "plays 0;throws 0;tires -9;");
            Edge.due("the least", x.asks(0, 1, 0) * 100 + x.asks(0, 1, 2), -9);
            Edge.rule(x, "plays -1;throws 0;tires -10;");
            Edge.due("below", x.asks(0, 1, 0) * 100 + x.asks(0, 1, 2), -9);
        });
    }

    // ---- 7 text: FAULTS

    private static void faults() {
        Edge.test(7, "the place of the first byte of the first TOKEN that can't stand there", x -> {
            fault(0, "strong", ")plays 1;");
            fault(2, "  strong", "\n\n;");
            fault(9, "plays 1  strong;", "plays 1\n\n9999 ) @");
            fault(6, "plays throws;@", "plays ;;;");
            fault(25, "plays 1;throws 0;tires 0;@", "plays 1;throws 0;tires 0;strong");
            fault(26, "plays 1;throws 0;tires 0;\n@");
        });
        Edge.test(7, "(the text's size, if it ends too early)", x -> {
            fault(0, "");
            fault(1, " ", "\n");
            fault(5, "plays");
            fault(7, "plays  ", "plays 1");
            fault(9, "plays 1  ");
            fault(24, "plays 1;throws 0;tires 0");
            fault(26, "plays 1;throws 0;tires 0\n ");
            fault(160, times(160, "\n"), "plays 1" + times(153, " "), "plays " + times(77, "1+"));
            fault(160, times(155, " ") + "plays", "plays" + times(154, " ") + "9", "plays" + times(149, " ") + "strong",
                "plays" + times(151, " ") + "9999", "plays" + times(154, " ") + "(");
        });
    }

    private static void faultsOfTokens() {
        Edge.test(7, "also of a byte that begins none", x -> {
            fault(0, "@", (char) 0 + "", (char) 255 + "plays 1;");
            fault(6, "plays @1;", "plays " + (char) 127 + "1;", "plays " + (char) 128 + "1;");
            fault(7, "plays 1@;", "plays 1>2;", "plays 1!2;");
            fault(5, "plays@");
            fault(6, "plays ;@");
        });
        Edge.test(7, "a WORD that is neither KEY nor NAME", x -> {
            fault(0, "play 1;", "playss 1;", "x");
            fault(6, "plays x;", "plays won;", "plays nots 1;", "plays " + times(150, "a") + ";");
            fault(8, "plays 1 xor 2;", "plays 1 an 2;", "plays 1 ands 2;", "plays 1 o 2;");
        });
        Edge.test(7, "a NUMBER that is too long", x -> {
            fault(6, "plays 10000;", "plays 00001;", "plays 12345");
            fault(8, "plays 1+10000;", "plays 1*00000;", "plays 1 10000;");
            fault(23, "plays 1;throws 0;tires 12345;");
            fault(25, "plays 1;throws 0;tires 0;12345");
        });
    }

    private static void open() {
        Edge.test(7, "a ( , a not, a - ahead of a ONE while 5 of these are open", x -> {
            stands("plays (((((1)))))" + Edge.REST, "plays -----1" + Edge.REST,
                "plays not not not not not 1" + Edge.REST, "plays not(-(-1))" + Edge.REST,
                "plays not not(--1)" + Edge.REST, "plays ((-(-1)))" + Edge.REST);
            fault(11, "plays ((((((1))))))" + Edge.REST, "plays ------1" + Edge.REST, "plays (((((-1)))))" + Edge.REST,
                "plays (((((not 1)))))" + Edge.REST, "plays -----(1)" + Edge.REST);
            fault(26, "plays not not not not not not 1" + Edge.REST, "plays not not not not not (1)" + Edge.REST,
                "plays not not not not not -1" + Edge.REST);
            fault(25, "plays not not not not not(1)" + Edge.REST, "plays not not not not not-1" + Edge.REST);
        });
        Edge.test(7, "a - ahead of a ONE", x -> {
            stands("plays (((((1-1)))))" + Edge.REST, "plays -----1-1" + Edge.REST,
                "plays not not not not not 1-1" + Edge.REST);
            fault(13, "plays (((((1--1)))))" + Edge.REST, "plays (((((1*-1)))))" + Edge.REST);
            fault(28, "plays not not not not not 1--1" + Edge.REST);
        });
    }

    private static void opensEnd() {
        Edge.test(7, "(a ( till its )", x -> {
            stands("plays (((((1)))))+(((((1)))))" + Edge.REST, "plays (1)*(1)*(1)*(1)*(1)*(1)*(1)" + Edge.REST,
                "plays ((((1)+(1)+(1)+(1))))" + Edge.REST, "plays (((((1))))+(1))" + Edge.REST);
            fault(15, "plays (((((1)+((2;", "plays (((((1)+(-2;");
            fault(13, "plays (((((1+(2))))))" + Edge.REST);
        });
        Edge.test(7, "not and - till what they belong to ends", x -> {
            stands("plays -1+-1+-1+-1+-1+-1" + Edge.REST, "plays -----1+-----1*-----1" + Edge.REST,
                "plays not 1 or not 1 and not 1 or not 1 or not 1 or not 1" + Edge.REST,
                "plays not not not not not 1 and not not not not not 1" + Edge.REST,
                "plays not -1<-1+-1*-1 and -----1" + Edge.REST);
            fault(28, "plays not not not not not 1+-1" + Edge.REST, "plays not not not not not 1<-1" + Edge.REST,
                "plays not not not not not 1*(1)" + Edge.REST);
            stands("plays not(-(-1)+(((1))))" + Edge.REST, "plays -(-(-1)*---1)" + Edge.REST);
            fault(19, "plays not(-(-1)+((((1;", "plays not(-(-1)*----1;");
        });
    }

    // ---- 8 force

    private static void forces() {
        Edge.test(8, "A TEXT is THE RULE: which was. BAD.", x -> {
            for (int number = 1; number <= 6; number++) {
                for (int text : new int[] {number, -1, 6, Edge.MIN, Edge.MAX}) {
                    Edge.due("TEXT " + text, x.force(text), Edge.BAD);
                }
                Edge.due("the last there is", x.force(number - 1), number == 1 ? 0 : number - 2);
                Edge.due("it is THE RULE", x.count(5), number - 1);
                Edge.read(x, "plays 1;throws 0;tires 0;");
            }
            Edge.due("the first", x.force(0), 5);
            Edge.due("the same", x.force(0), 0);
        });
        Edge.test(8, "is: plays strong ; throws has < 1 ; tires 1 ;", x -> {
            Edge.come(x, 0, 0);
            Edge.due("HAS none", x.asks(0, 1, 0), -1);
            Edge.give(x, 0, 7);
            Edge.due("HAS one", x.asks(0, 1, 0), 50);
            Edge.due("tires", x.asks(0, 1, 2), 1);
            x.set(3, 0, 0);
            Edge.due("STRONG 0", x.asks(0, 1, 0), 0);
            x.set(3, 0, 99);
            Edge.due("STRONG 99", x.asks(0, 1, 0), 99);
            Edge.due("tires", x.asks(0, 1, 3), 1);
        });
        Edge.test(8, "they change nothing", x -> Edge.changesNothing(Edge.BAD, Edge::lively,
            y -> y.force(2), y -> y.force(-1), y -> y.force(6), y -> y.force(Edge.MAX)));
    }
}
