import com.sun.management.ThreadMXBean;
import java.lang.management.ManagementFactory;
import java.util.function.ObjIntConsumer;

/** All calls of a run live in one room, which is never swept: what they make together has to fit in. */
public final class RoomTest {
    /** As many as are promised, less those that make the full object. */
    private static final int CALLS = 360;
    /** In bytes, at four a field or element of the 7.3 million that there may be. */
    private static final long MOST = 7_300_000L * 4;
    private static final ThreadMXBean THREADS = (ThreadMXBean) ManagementFactory.getThreadMXBean();

    /** An object with as many PANES as there can be, of which there is much to ask. */
    private static FrostBids full() {
        FrostBids x = new FrostBids();
        for (int i = 0; i < 6; i++) {
            x.pane(6 - i, i, i);
            x.set(i, 1, 0b101101101101);
        }
        for (char sign : "glow 1 c=1|n=2;glow 1 !(c=1&n=2);chill 1 (h=1|h<9)&(k=1|k<9)|w=1;chill 9 p<9".toCharArray()) {
            x.feed(sign);
        }
        x.town();
        for (int i = 0; i < 5; i++) {
            x.see(i, 20, x.on(20, 10 + i));
        }
        for (int i = 0; i < 8; i++) {
            x.plan(0, 0);
            x.book(i % 6, x.of(i % 6, 3));
        }
        return x;
    }

    private static void fits(Dues dues, String call, ObjIntConsumer<FrostBids> by) {
        FrostBids x = full();
        long ahead = THREADS.getThreadAllocatedBytes(Thread.currentThread().getId());
        for (int i = 0; i < CALLS; i++) {
            by.accept(x, i);
        }
        long made = THREADS.getThreadAllocatedBytes(Thread.currentThread().getId()) - ahead;
        dues.holds("what " + CALLS + " calls of " + call + " make fits in: " + made + " bytes", made <= MOST);
    }

    public static void main(String[] args) {
        Dues dues = new Dues();
        fits(dues, "feed", (x, i) -> x.feed(i % 128));
        fits(dues, "town", (x, i) -> { if (i % 2 == 0) { x.feed('f'); } else { x.town(); } });
        fits(dues, "pane or undo", (x, i) -> { if (i % 2 == 0) { x.undo(); } else { x.pane(6, 0, 0); } });
        fits(dues, "pass", (x, i) -> x.pass(i % 25));
        fits(dues, "on", (x, i) -> x.on(60, 0));
        fits(dues, "best", (x, i) -> x.best(i % 6, 20, 0));
        fits(dues, "heat", (x, i) -> x.heat(i % 6, 20, 0));
        fits(dues, "comes", (x, i) -> x.comes(i % 6, 4094));
        fits(dues, "breaths", (x, i) -> x.breaths(3, -1));
        fits(dues, "colds", (x, i) -> x.colds(0));
        fits(dues, "warms", (x, i) -> x.warms(i % 6));
        fits(dues, "firm", (x, i) -> x.firm(i % 6, 0));
        fits(dues, "odds", (x, i) -> x.odds(i % 6, 60, 9, 0));
        fits(dues, "mean", (x, i) -> x.mean(0));
        fits(dues, "done", (x, i) -> x.done(0));
        fits(dues, "looked", (x, i) -> x.looked());
        fits(dues, "act", (x, i) -> x.act(i % 6, i % 3, i));
        fits(dues, "image or undo", (x, i) -> { if (i % 2 == 0) { x.image(); } else { x.undo(); } });
        dues.end();
    }
}
