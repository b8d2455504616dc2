import com.sun.management.ThreadMXBean;
import java.lang.management.ManagementFactory;

/** What objects and calls take of the room that all calls of a run share. */
public final class RoomTest {
    private static final ThreadMXBean BEAN = (ThreadMXBean) ManagementFactory.getThreadMXBean();
    private static long sum = 0;

    private RoomTest() {
    }

    private static long bytes() {
        return BEAN.getThreadAllocatedBytes(Thread.currentThread().getId());
    }

    public static void main(String[] args) {
        // The first object loads the classes, which is not the object's own room.
        sum += new LedgerHounds().status() + bytes();
        long start = bytes();
        LedgerHounds x = new LedgerHounds();
        long made = bytes() - start;
        Due.holds("a new object takes less than 24,000 bytes, not " + made, made < 24000);
        String law = "leads 1" + "+1".repeat(49) + ";bites".repeat(11);
        for (int i = 0; i < 6; i++) {
            Due.law(x, law);
        }
        x.force(0);
        x.clerk(1);
        x.image(0);
        x.image(1);
        quiet(x);
        start = bytes();
        for (int i = 0; i < 10; i++) {
            quiet(x);
        }
        long taken = bytes() - start;
        Due.holds("calls that keep nothing take nothing, not " + taken, taken < 500);
        texts(law);
        Due.end("RoomTest");
    }

    private static void quiet(LedgerHounds x) {
        sum += x.enter(0, 1) + x.at(0, 2) + x.told(0, 0, 1) + x.off(0, 0) + x.of(0, 0) + x.asks(0, 0, 0) + x.terms(0, 0);
        sum += x.feed(1, 2, 3, 4, 5) + x.row() + x.feed(1, 2, 3, 4, 5) + x.end(3) + x.law() + x.take(0, 0) + x.shift(0, 1, 1);
        sum += x.fence(0) + x.pass() + x.undo() + x.fewest() + x.turned(-1) + x.hound(0, 9) + x.ring(0, 0) + x.sources(0);
        sum += x.casts(0) + x.seen(0, 0, 0) + x.fits() + x.next(1, 0) + x.booked(0, 1, 1) + x.through(0, 1, 0) + x.settled();
        sum += x.forget() + x.few(20, 99) + x.weeks(1, 60) + x.drawn(0, 0) + x.image(0) + x.image(1) + x.back(0) + x.count(0) + x.status();
    }

    /** 256 texts are the most that 512 calls can have read: a feed() and a law() or orders() each. */
    private static void texts(String law) {
        long texts = 0;
        for (int i = 0; i < 256; i++) {
            LedgerHounds x = new LedgerHounds();
            Due.tape(x, law);
            long start = bytes();
            sum += x.law();
            texts += bytes() - start;
        }
        Due.holds("256 laws take less than 300,000 bytes, not " + texts, texts < 300000);
        Due.holds("some sum", sum != 1);
    }
}
