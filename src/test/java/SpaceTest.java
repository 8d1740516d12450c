import com.sun.management.ThreadMXBean;
import java.lang.management.ManagementFactory;

/**
 * All calls of a run live in one room, so rows are made once and used again: an object is small, a question makes nothing,
 * and a text no more than what a PLAY or an IMAGE keeps.
 */
public final class SpaceTest {
    private static final ThreadMXBean THREADS = (ThreadMXBean) ManagementFactory.getThreadMXBean();
    private static final int TIMES = 400;
    private static final String CROWD = "house 900;house 900;house 900;house 900;house 900;felt 30;nap 0;"
        + "wink 0 1 0;wink 1 2 1;wink 2 3 2;wink 3 4 3;wink 4 5 4;wink 0 6 4;wink 1 7 5;wink 2 8 6;wink 3 9 7;wink 4 1 8;"
        + "cup 9 99;cup 14 98;cup 20 97;cup 29 96;";
    private static final WinkBank BANK = Check.in(CROWD);

    private SpaceTest() { }

    public static void main(String[] args) {
        Check.law(BANK, "press*2+under-nap-damp+least[shots,most[coins,day]]");
        Check.book(BANK, "1 2;2 4;");
        object();
        questions();
        kept();
        Check.done();
    }

    /** Bytes that so many calls make; called once ahead of that, so that what the machine itself makes is not counted. */
    private static long made(int times, Check.Call call) {
        for (int i = 0; i < 20; i++) {
            call.go();
        }
        long self = Thread.currentThread().getId();
        long before = THREADS.getThreadAllocatedBytes(self);
        for (int i = 0; i < times; i++) {
            call.go();
        }
        return THREADS.getThreadAllocatedBytes(self) - before;
    }

    private static void within(String what, long bytes, long most) {
        Check.due(what + " made " + bytes + " bytes, at most " + most, bytes <= most ? 1 : 0, 1);
    }

    private static void object() {
        within("a new object", made(TIMES, () -> new WinkBank().count(0)) / TIMES, 8000);
    }

    /** A few bytes may be the counter's own. */
    private static void none(String what, Check.Call call) {
        within(what, made(TIMES, call), 4000);
    }

    private static void questions() {
        none("told", () -> BANK.told(5));
        none("house", () -> BANK.house(4, 2));
        none("wink", () -> BANK.wink(9, 5));
        none("cup", () -> BANK.cup(3, 2));
        none("cell", () -> BANK.cell(4, 1));
        none("flies", () -> BANK.flies(9, 9));
        none("would", () -> BANK.would(9, 9, 9, 9, 9, 99, 29, 500, 9999));
        none("down", () -> BANK.down(9, 9, 0));
        none("presses", () -> BANK.presses(9, 0));
        none("gain", () -> BANK.gain(4, 1));
        none("way", () -> BANK.way(9, 1));
        none("odds", () -> BANK.odds(9, 5, 8, 0));
        none("mean", () -> BANK.mean(9, 5, 8, 0));
        none("match", BANK::match);
        none("matched", () -> BANK.matched(3));
        none("fits", () -> BANK.fits(9, 0));
        none("look", () -> BANK.look(9, 1));
        none("duel", () -> BANK.duel(8, 9, 0));
        none("panic", () -> BANK.panic(3, 2));
        none("level", () -> BANK.level(4, 4000));
        none("trust", () -> BANK.trust(1));
        none("richest", () -> BANK.richest(1));
        none("ahead", () -> BANK.ahead(4, 100));
        none("season", () -> BANK.season(1, 8, 96, 3));
        none("span", () -> BANK.span(1, 20, 8, 96, 0));
        none("fault", BANK::fault);
        none("status", () -> BANK.status(0));
        none("count", () -> BANK.count(1));
    }

    /** What is fed is made here once: only the class is measured. */
    private static void kept() {
        int day = 'd' << 24 | 'a' << 16 | 'y' << 8 | ';';
        none("feed and a ROOM", () -> BANK.feed(0x6e617039, 0x3b202020, 0x20202020, 0, 0) + BANK.room(12));
        none("feed and a LAW", () -> BANK.feed(0x70726573, 0x732b3120, 0, 0, 0) + BANK.law(8));
        none("feed and a BOOK", () -> BANK.feed(0x3120323b, 0x3220343b, 0, 0, 0) + BANK.book(8));
        within("a PLAY undone", made(TIMES, () -> BANK.feed(day, day, 0, 0, 0) + BANK.play(8) + BANK.undo()) / TIMES, 400);
        within("an IMAGE restored", made(TIMES, () -> BANK.image() + BANK.restore()) / TIMES, 400);
        none("nothing to undo or restore", () -> BANK.undo() + BANK.restore());
    }
}
