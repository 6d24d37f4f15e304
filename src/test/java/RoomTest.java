import com.sun.management.ThreadMXBean;
import java.lang.management.ManagementFactory;

/**
 * All calls of one run live in one room: an object makes its rows once, and its 512 calls make nothing more
 * than the forty states that undo may keep.
 */
public final class RoomTest {
    private static final int CALLS = 512;
    private static final int MOST_BYTES_OF_ONE = 32768;
    private static final int MOST_BYTES_OF_CALLS = 16384;
    private static final ThreadMXBean THREADS = (ThreadMXBean) ManagementFactory.getThreadMXBean();

    private interface Call {
        void on(BellRingers x, int i);
    }

    private RoomTest() {
    }

    /** Six people, five bells, twenty loses, thirty units: all that a village can have. */
    private static String fullest() {
        StringBuilder text = new StringBuilder();
        for (int person = 0; person < 6; person++) {
            text.append("person ").append((char) ('a' + person)).append(" has 999;");
        }
        for (int bell = 0; bell < 5; bell++) {
            text.append("bell ").append((char) ('a' + bell)).append(" hour ").append(bell * 4).append(';');
        }
        for (int i = 0; i < 20; i++) {
            text.append("loses ").append((char) ('a' + i % 6)).append(' ').append((char) ('a' + i % 5)).append(" 9;");
        }
        return text.append("weighs loss").append("+rung*hour".repeat(14)).append("+here;faces 40;draw 7;").toString();
    }

    private static final String FULLEST = fullest();

    private static long bytesOfOne() {
        long before = THREADS.getThreadAllocatedBytes(Thread.currentThread().getId());
        BellRingers x = new BellRingers();
        long after = THREADS.getThreadAllocatedBytes(Thread.currentThread().getId());
        Check.same("1 empty at first", x.about(0), 0);
        return after - before;
    }

    private static long bytesOf(Call call) {
        BellRingers x = Check.of(FULLEST);
        for (int day = 1; day <= 12; day++) {
            x.seen(day, day % 5, day % 6, false);
        }
        long before = THREADS.getThreadAllocatedBytes(Thread.currentThread().getId());
        for (int i = 0; i < CALLS; i++) {
            call.on(x, i);
        }
        return THREADS.getThreadAllocatedBytes(Thread.currentThread().getId()) - before;
    }

    private static void small(String what, Call call) {
        // the first time classes may be loaded on the way
        bytesOf(call);
        long bytes = bytesOf(call);
        Check.same(what + ": at most " + MOST_BYTES_OF_CALLS + " bytes, not " + bytes, bytes <= MOST_BYTES_OF_CALLS, true);
    }

    private static void acts() {
        small("11 day", (x, i) -> x.day());
        small("12 want", (x, i) -> x.want(i % 6, i % 5, i % 21));
        small("13 leave, 14 come", (x, i) -> {
            x.leave(i % 6);
            x.come((i + 3) % 6);
        });
        small("15 gift", (x, i) -> {
            x.day();
            x.gift(i % 6, 1 + i % 99);
        });
        small("16 undo, 17 redo", (x, i) -> {
            x.day();
            x.undo();
            x.redo();
        });
        small("47 image, 48 back", (x, i) -> {
            x.image(i % 3);
            x.day();
            x.back((i + 1) % 3);
        });
    }

    private static void text() {
        small("2 feed, 3 end", (x, i) -> {
            x.feed(i, i, i, i, i);
            x.end(i % 21);
        });
        small("4 village", (x, i) -> {
            x.feed(0x77656967, 0x68732028, 0x28286461, 0x792B3129, 0x29293B20);
            x.village();
        });
        small("4 a fault", (x, i) -> {
            x.feed(i, i, i, i, i);
            x.village();
        });
    }

    private static void asked() {
        small("6 person", (x, i) -> x.person(i % 6, i % 5));
        small("8 weight", (x, i) -> x.weight(i % 6, i % 5));
        small("18 will", (x, i) -> x.will(i % 5, 60, i % 2));
        small("19 purse", (x, i) -> x.purse(i % 6, 60));
        small("20 cost", (x, i) -> x.cost(60));
        small("21 order", (x, i) -> x.order());
        small("22 duties", (x, i) -> x.duties(i % 2));
        small("23 hush", (x, i) -> x.hush(i % 2));
        small("24 spare", (x, i) -> x.spare(i % 2));
        small("25 chorus", (x, i) -> x.chorus(i % 2));
        small("26 wish", (x, i) -> x.wish(i % 6, i % 5));
        small("27 ruin", (x, i) -> x.ruin(i % 6));
        small("28 hides", (x, i) -> x.hides(i % 6));
        small("29 staying", (x, i) -> x.staying(i % 6, (i + 1) % 6));
        small("30 slight", (x, i) -> x.slight(60));
        small("31 list", (x, i) -> x.list());
        small("36 busiest", (x, i) -> x.busiest());
        small("37 law", (x, i) -> x.law(i % 21));
        small("38 hushed", (x, i) -> x.hushed(i % 5));
        small("39 odds", (x, i) -> x.odds(i % 5, i % 2));
        small("41 seen, 42 untell, 43 later", (x, i) -> {
            x.seen(1 + i % 12, i % 5, i % 6, false);
            x.later(1);
            x.untell(i % 30);
        });
        small("44 fits", (x, i) -> x.fits(i));
        small("45 sure", (x, i) -> x.sure(i % 2, 0));
        small("46 ask", (x, i) -> x.ask(12, i % 2, 0));
    }

    public static void main(String[] args) {
        bytesOfOne();
        long bytes = bytesOfOne();
        Check.same("1 at most " + MOST_BYTES_OF_ONE + " bytes, not " + bytes, bytes <= MOST_BYTES_OF_ONE, true);
        text();
        acts();
        asked();
        Check.finish();
    }
}
