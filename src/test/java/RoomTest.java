import com.sun.management.ThreadMXBean;
import java.lang.management.ManagementFactory;
import java.util.function.IntConsumer;

/** All calls of a run live in one room: what they make together is small. */
public final class RoomTest {
    private static final int CALLS = 512;
    /** In bytes: far less than the room has, far more than a run needs. */
    private static final long MOST = 1 << 20;
    private static final ThreadMXBean THREADS = (ThreadMXBean) ManagementFactory.getThreadMXBean();

    /** A full object, by whose towns all calls have the most to do. */
    private static FrostBids full() {
        FrostBids x = new FrostBids();
        for (int i = 0; i < 6; i++) {
            x.pane(6 - i, i, i);
            x.set(i, 1, 0b101101101101);
        }
        for (char sign : "glow 1 c=1|n=2;glow 1 !(c=1&n=2);chill 1 (h=1|h<9)&(k=1|k<9)|w=1;chill 9 p<9".toCharArray()) {
            x.feed(sign);
        }
        x.town();
        for (int i = 0; i < 8; i++) {
            x.see(i % 6, 20, x.on(20, 10 + i % 6));
            x.plan(0, 0);
            x.book(i % 6, 0);
        }
        return x;
    }

    private static void small(Dues dues, String calls, IntConsumer call) {
        long ahead = THREADS.getThreadAllocatedBytes(Thread.currentThread().getId());
        for (int i = 0; i < CALLS; i++) {
            call.accept(i);
        }
        long made = THREADS.getThreadAllocatedBytes(Thread.currentThread().getId()) - ahead;
        dues.holds(CALLS + " of " + calls + " make " + made + " bytes", made < MOST);
    }

    public static void main(String[] args) {
        Dues dues = new Dues();
        FrostBids x = full();
        small(dues, "on", i -> x.on(60, 0));
        small(dues, "best", i -> x.best(i % 6, 20, 0));
        small(dues, "heat", i -> x.heat(i % 6, 20, 0));
        small(dues, "comes", i -> x.comes(i % 6, 4095));
        small(dues, "breaths", i -> x.breaths(3, -1));
        small(dues, "colds, warms, firm", i -> { x.colds(0); x.warms(i % 6); x.firm(i % 6, 0); });
        small(dues, "odds", i -> x.odds(i % 6, 60, 9, 0));
        small(dues, "mean, done, looked", i -> { x.mean(0); x.done(0); x.looked(); });
        small(dues, "act", i -> x.act(i % 6, i % 3, i));
        small(dues, "image, undo", i -> { x.image(); x.undo(); });
        small(dues, "pass", i -> x.pass(i % 19));
        FrostBids y = new FrostBids();
        y.image();
        small(dues, "pane, undo", i -> { y.pane(6, 0, 0); y.undo(); });
        FrostBids z = new FrostBids();
        small(dues, "feed, town", i -> { z.feed(i % 128); z.town(); });
        small(dues, "new, by one of eight", i -> { if (i % 8 == 0) { new FrostBids(); } });
        dues.end();
    }
}
