import java.lang.management.ManagementFactory;

/** All calls of a run live in one room: an object is small, and no call makes anything that lasts. */
public final class RoomTest {
    private static final Check CHECK = new Check();
    private static final int CALLS = 200;

    private static long made() {
        com.sun.management.ThreadMXBean threads = (com.sun.management.ThreadMXBean) ManagementFactory.getThreadMXBean();
        return threads.getCurrentThreadAllocatedBytes();
    }

    private static BalconyPort full() {
        return Check.of("balcony 9 3 4 0;balcony 2 5 5 1;".repeat(5) + "wall 3 7;wall 9 2;".repeat(5)
            + "ship 20 2 3;times 1 2 3;goes gone+beside+free+pots*iron/7 < 9*times or not day = 3;");
    }

    private static void useAll(BalconyPort x) {
        x.days(1);
        x.pots(0, 3);
        x.rent(0, 3);
        x.widen(0, 4);
        x.back(1);
        x.undo();
        x.where(0, 60, 0);
        x.sails(9);
        x.hangs(9);
        x.earned(0, 60);
        x.empty(0);
        x.follows(0);
        x.richest(60);
        x.fullest(0);
        x.mostPots(9);
        x.ships();
        x.cargo(1);
        x.best(0);
        x.widening();
        x.see(30, 0);
        x.wrong(0);
        x.forget();
        x.look(0);
        x.storms(5, 60, 0);
        x.image();
        x.restore();
        x.feed(0, 0, 0, 0, 0);
    }

    public static void main(String[] args) {
        BalconyPort x = full();
        useAll(x);
        long before = made();
        for (int i = 0; i < CALLS; i++) {
            useAll(x);
        }
        long each = (made() - before) / CALLS;
        CHECK.due("bytes made by 27 calls: " + each, true, () -> each < 64);
        long start = made();
        BalconyPort y = new BalconyPort();
        long object = made() - start;
        CHECK.due("bytes of an object: " + object, true, () -> y.count(0) == 0 && object < 64000);
        CHECK.end("RoomTest");
    }
}
