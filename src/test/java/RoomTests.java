import java.lang.management.ManagementFactory;
import java.util.function.IntConsumer;

/**
 * All calls of one run live in one room: some 600,000 objects and 7.3 million fields and elements.
 * An object takes 16 bytes at least and an element one, so that a run of four million bytes fits in.
 */
public final class RoomTests {
    static final long MOST = 4000000;
    static final int CALLS = 512;
    static int wrong;
    static PupilCoin land;

    public static void main(String[] args) {
        run("nothing but a new object", i -> { });
        run("rates", i -> land.rates(i % 10, 0, 1, 999999999, i % 4));
        run("edges", i -> land.edge(i % 12, 9, i % 5));
        run("dues", i -> land.due(i % 12, 9));
        run("lines of dues, with a mark ahead of each", i -> {
            if (i % 2 == 0) land.mark(i % 12, i % 10, i % 6, i);
            else land.led(i % 12, 9, i % 35);
        });
        run("losers and others", i -> {
            if (i % 2 == 0) land.losers(9);
            else land.other(i % 12, 9);
        });
        run("empty formulae beside", i -> land.beside(0));
        run("long texts beside", i -> text(i, true));
        run("long texts", i -> text(i, false));
        run("texts with a fault", i -> {
            if (i % 2 == 0) land.feed(0x6c696e65, 0x20613d31, 0x2b312b3f, 0, 0);
            else land.formula(20, 9);
        });
        run("proposals", i -> {
            if (i < 20) land.propose(0, 0, 3, 1, 9);
            else if (i == 20) land.day(10);
            else land.adopt(i % 20);
        });
        run("what is told of one school", i -> {
            land.doubt(i % 12, i % 10);
            land.foretold(i % 12, i % 3, 1 + i % 5, i % 3);
        });
        System.out.println(wrong + " runs take too much room");
        if (wrong != 0) System.exit(1);
    }

    /** Seven hundred bytes of one line, as many as the tape takes: "line a=" and then "1+" all along. */
    static void text(int i, boolean beside) {
        int at = i % 36;
        if (at == 0) land.feed(0x6c696e65, 0x20613d31, 0x2b312b31, 0x2b312b31, 0x2b312b31);
        else if (at == 34) land.feed(0x2b312b31, 0x2b312b31, 0x2b312b31, 0x2b312b31, 0x2b313b20);
        else if (at < 34) land.feed(0x2b312b31, 0x2b312b31, 0x2b312b31, 0x2b312b31, 0x2b312b31);
        else check("the long text is sound", beside ? land.beside(700) == 0 : land.formula(700, 0) >= 0 || land.count(5) == 8);
    }

    static void run(String what, IntConsumer call) {
        com.sun.management.ThreadMXBean bean = (com.sun.management.ThreadMXBean) ManagementFactory.getThreadMXBean();
        long thread = Thread.currentThread().getId();
        // Once ahead, so that what the machine itself makes the first time isn't counted.
        long took = 0;
        for (int twice = 0; twice < 2; twice++) {
            long before = bean.getThreadAllocatedBytes(thread);
            land = new PupilCoin();
            busy();
            for (int i = land.count(1) + 60; i < CALLS; i++) call.accept(i);
            took = bean.getThreadAllocatedBytes(thread) - before;
        }
        check(what + " takes " + took + " bytes", took >= 0 && took < MOST);
    }

    static void busy() {
        for (int s = 0; s < 12; s++) land.school(s % 8, s % 3, s);
        for (int s = 0; s < 12; s++) land.mark(s, s % 10, s % 3, 10 * s);
        for (int n = 0; n < 12; n++) land.road(n, n + 1, 5);
        land.feed(0x6c696e65, 0x20613d68, 0x65616473, 0x3b6c696e, 0x6520623d);
        land.feed(0x6c617374, 0x3b746f74, 0x616c2035, 0x303b2020, 0x20202020);
        check("the busy land's formula is sound", land.formula(40, 0) == 0);
    }

    static void check(String what, boolean fits) {
        if (fits) return;
        wrong++;
        System.out.println(what);
    }
}
