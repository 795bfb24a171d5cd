import com.sun.management.ThreadMXBean;
import java.lang.management.ManagementFactory;

/** What is made stays small (LANGUAGE.md, rule 12): nothing by the calls that only ask, little by all others. */
public final class RoomTests {
    private static final ThreadMXBean THREADS = (ThreadMXBean) ManagementFactory.getThreadMXBean();
    private static final int TIMES = 200, OBJECT = 20_000, TEXTS = 40_000, NOISE = 2_000;

    private static int passed;
    private static int failed;

    private RoomTests() {
    }

    private static void makes(String what, long most, Runnable calls) {
        calls.run();
        long ahead = THREADS.getThreadAllocatedBytes(Thread.currentThread().getId());
        calls.run();
        long made = THREADS.getThreadAllocatedBytes(Thread.currentThread().getId()) - ahead;
        if (made <= most) {
            passed++;
        } else {
            failed++;
            System.out.println(what + " makes " + made + " bytes, due are " + most + " at most");
        }
    }

    public static void main(String[] args) {
        makes("a new object", OBJECT, LoserKeepsTheBoard::new);
        LoserKeepsTheBoard x = dearest();
        asking(x);
        changing(x);
        makes(TIMES + " TEXTS with a FAULT", TEXTS, () -> times(() -> {
            x.feed('p');
            x.text();
        }));
        System.out.println("RoomTests: " + passed + " passed, " + failed + " failed");
        if (failed != 0) {
            System.exit(1);
        }
    }

    private static void times(Runnable call) {
        for (int i = 0; i < TIMES; i++) {
            call.run();
        }
    }

    /** Four PLAYERS, for ALL by three games; a row of forty games, and one that tells of four. */
    private static LoserKeepsTheBoard dearest() {
        LoserKeepsTheBoard x = new LoserKeepsTheBoard();
        Edge.rule(x, "plays strong+round;throws has<1 and 60<strong;tires stake-3;");
        Edge.come(x, 0, 1, 2, 3);
        Edge.row(x, 0, Edge.INTS, Edge.many(40, 12));
        x.film(1, 0);
        x.image();
        return x;
    }

    private static void asking(LoserKeepsTheBoard x) {
        makes("told", NOISE, () -> times(() -> x.told(0, 7)));
        makes("asks", NOISE, () -> times(() -> x.asks(0, 1, 5)));
        makes("evening", NOISE, () -> times(() -> x.evening(0, 8)));
        makes("robin", NOISE, () -> times(() -> x.robin(7)));
        makes("rings", NOISE, () -> times(() -> x.robin(8)));
        makes("best", NOISE, () -> times(() -> x.best(0, 1)));
        makes("order", NOISE, () -> times(() -> x.order(3, 0)));
        makes("all", NOISE, () -> times(() -> x.all(3)));
        makes("soon", NOISE, () -> times(() -> x.soon(0, 1)));
        makes("tells", NOISE, () -> times(() -> x.tells(1, 0, 3)));
        makes("tells by TEXTS", NOISE, () -> times(() -> x.tells(1, 0, 7)));
        makes("drawn", NOISE, () -> times(() -> x.drawn(7, 0, 60)));
        makes("chance", NOISE, () -> times(() -> x.chance(7, 20, 0, 4, 0)));
        makes("count", NOISE, () -> times(() -> x.count(1)));
        makes("taken", NOISE, () -> times(() -> x.taken(3, 0)));
    }

    private static void changing(LoserKeepsTheBoard x) {
        makes("set", NOISE, () -> times(() -> x.set(1, 0, 1)));
        makes("game", NOISE, () -> times(() -> x.game(0, 1)));
        makes("play", NOISE, () -> times(() -> {
            x.set(0, 0, 0);
            x.play(0);
        }));
        makes("film", NOISE, () -> times(() -> x.film(2, 0)));
        makes("image", NOISE, () -> times(() -> x.image()));
        makes("back", NOISE, () -> times(() -> x.back()));
        makes("sheet", NOISE, () -> times(() -> x.sheet(3, 2, 40)));
        makes("cell", NOISE, () -> times(() -> x.cell(3, 39, 7)));
        makes("copy", NOISE, () -> times(() -> x.copy(3, 0, 3, 1, 39)));
        makes("players", NOISE, () -> times(() -> x.players(3, 2, 0, 6)));
        makes("player", NOISE, () -> times(() -> x.player(0, 0)));
        makes("force", NOISE, () -> times(() -> x.force(0)));
        makes("feed", NOISE, () -> times(() -> x.feed(256)));
    }
}
