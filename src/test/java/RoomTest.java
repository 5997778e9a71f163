import java.lang.management.ManagementFactory;
import java.util.function.ToIntFunction;

/**
 * What the class takes of the memory. All calls of a run live in one room, so that a call makes nothing,
 * but for those that make a market or keep how taut its ropes are, and these make little.
 */
public final class RoomTest {
    private static final char[] FULL_MARKET = "m99,0;l20;l19;l18;t0,4,9;j1,4,8;b2,4,7;n0,5,6;v1,5,5;t2,5,4;".toCharArray();
    private static final int TIMES = 400;
    // in bytes; the least object takes 16, so that 8 are nothing but the measuring itself
    private static final long NOTHING = 8, THREE_INTS = 60, A_MARKET = 600, AN_OBJECT = 4000;

    private static final Due DUE = new Due();

    private RoomTest() {
    }

    /** Bytes that this thread has taken so far; below 0 where the machine does not tell. */
    private static long taken() {
        return ManagementFactory.getThreadMXBean() instanceof com.sun.management.ThreadMXBean bean && bean.isThreadAllocatedMemorySupported()
            ? bean.getThreadAllocatedBytes(Thread.currentThread().getId()) : -1;
    }

    public static void main(String[] args) {
        if (taken() < 0) {
            System.out.println("this machine does not tell what a call takes");
            return;
        }
        takes(AN_OBJECT, "a new object", x -> new HungStalls().status());
        takes(A_MARKET, "market", RoomTest::read);
        takes(A_MARKET, "market with a fault", x -> x.market());
        takes(A_MARKET, "image", x -> x.image(0));
        takes(A_MARKET, "restore", x -> x.restore(0));
        takes(THREE_INTS, "wind", x -> x.wind(40, 7, -1));
        rows();
        acts();
        foretold();
        asked();
        DUE.end();
    }

    private static void rows() {
        takes(NOTHING, "row", x -> x.row(0, 2, 40));
        takes(NOTHING, "set", x -> x.set(0, 39, 7));
        takes(NOTHING, "copy", x -> x.copy(0, 0, 1, 0, 40));
        takes(NOTHING, "drop and row", x -> x.drop(0) + x.row(0, 1, 40));
        takes(NOTHING, "feed", x -> x.feed('m'));
    }

    private static void acts() {
        takes(NOTHING, "buyers", x -> x.buyers(0, 5));
        takes(NOTHING, "girl and undo", x -> x.girl(0, 1) + x.undo());
        takes(NOTHING, "slide", x -> x.slide(0, 1) + x.slide(0, 2));
        takes(NOTHING, "unload", x -> x.unload(0, 1) + x.unload(0, 0));
        takes(NOTHING, "rain", x -> x.rain());
        takes(NOTHING, "cut", x -> x.cut(0));
        takes(NOTHING, "stall", x -> x.stall(1, 7) + x.stall(1, 8));
        takes(NOTHING, "rope", x -> x.rope(1, 4, 1));
        takes(NOTHING, "drops", x -> x.drops());
    }

    private static void foretold() {
        takes(NOTHING, "walkway", x -> x.walkway(0, 1));
        takes(NOTHING, "walkways", x -> x.walkways(1));
        takes(NOTHING, "even", x -> x.even(0, 1, 0));
        takes(NOTHING, "bestSlide", x -> x.bestSlide(0));
        takes(NOTHING, "unloaded", x -> x.unloaded(-1) + x.unloaded(5));
        takes(NOTHING, "whoCut", x -> x.whoCut(0, 0));
        takes(NOTHING, "box", x -> x.box(0, 9, 0));
        takes(NOTHING, "reads", x -> x.reads(0, 1, 0, 0, 0));
        takes(NOTHING, "holds", x -> x.holds(1));
        takes(NOTHING, "falls", x -> x.falls(0));
        takes(NOTHING, "dearest", x -> x.dearest(0));
        takes(NOTHING, "rented", x -> x.rented(3, 0, 1));
    }

    private static void asked() {
        takes(NOTHING, "kind", x -> x.kind(0));
        takes(NOTHING, "as", x -> x.as(0, 1));
        takes(NOTHING, "ask", x -> x.ask(1, 0) + x.ask(4, 1));
        takes(NOTHING, "trace, count, fault, status", x -> x.trace(0) + x.count(0) + x.fault() + x.status());
    }

    private static int read(HungStalls x) {
        for (char c : FULL_MARKET) {
            x.feed(c);
        }
        return x.market();
    }

    private static HungStalls filled() {
        HungStalls x = new HungStalls();
        DUE.is("market", read(x), 6);
        x.image(0);
        x.row(0, 2, 40);
        x.row(1, 2, 40);
        return x;
    }

    private static void takes(long most, String what, ToIntFunction<HungStalls> call) {
        HungStalls x = filled();
        // the first call may load classes
        call.applyAsInt(filled());
        long before = taken();
        for (int i = 0; i < TIMES; i++) {
            call.applyAsInt(x);
        }
        long each = (taken() - before) / TIMES;
        DUE.is(what + " takes " + each + " bytes of " + most + "; whether that is too many", each > most ? 1 : 0, 0);
    }
}
