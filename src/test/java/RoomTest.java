import com.sun.management.ThreadMXBean;
import java.lang.management.ManagementFactory;

/** All calls of a run live in one room: what an object needs is made with it, and no call makes more. */
public final class RoomTest {
    private static final ThreadMXBean BEAN = (ThreadMXBean) ManagementFactory.getThreadMXBean();
    private static final long MOST_TO_MAKE = 64 * 1024;
    /** What the measuring itself may make. */
    private static final long MOST_TO_CALL = 1024;

    public static void main(String[] args) {
        long id = Thread.currentThread().getId();
        everything(new CauseBook());
        BEAN.getThreadAllocatedBytes(id);
        long ahead = BEAN.getThreadAllocatedBytes(id);
        CauseBook x = new CauseBook();
        long made = BEAN.getThreadAllocatedBytes(id);
        everything(x);
        long after = BEAN.getThreadAllocatedBytes(id);
        System.out.println("RoomTest: an object takes " + (made - ahead) + " bytes, its calls " + (after - made));
        if (made - ahead > MOST_TO_MAKE || after - made > MOST_TO_CALL) {
            System.exit(1);
        }
    }

    private static void everything(CauseBook x) {
        for (int i = 0; i < 6; i++) {
            x.object(i % 2);
        }
        for (int i = 0; i < 15; i++) {
            x.link(i % 3, i % 6, (i + 1 + i / 6) % 6);
        }
        for (int i = 0; i < 10; i++) {
            x.rule(i % 5, i % 3 + 8 * (i % 2), i % 3, (i + 1) % 4 + 8 * (i / 2 % 2), i);
        }
        x.cause(0, 0, 3);
        x.cause(1, 1, 4);
        x.sign(0, 2);
        x.sign(1, 3);
        for (int i = 0; i < 12; i++) {
            x.note(i % 6, i * 3);
        }
        ask(x);
        x.image(0);
        x.cut(3);
        x.drop(2);
        x.see(5);
        x.book(31);
        x.reduce(2);
        x.window(0, 20);
        ask(x);
        for (int i = 0; i < 8; i++) {
            x.undo();
        }
        x.back(0);
        x.terms(0, 3);
        x.clear();
        ask(x);
    }

    private static void ask(CauseBook x) {
        for (int i = -1; i < 7; i++) {
            x.time(i, i, i);
            x.code(i);
            x.nearest(i);
            x.likeliest(i);
            x.ranked(i);
            x.hold(i);
            x.weakest(i);
            x.sure(i);
            x.groups(i);
            x.group(i);
            x.reduced(i);
            x.ask(i);
            x.count(i);
            for (int what = -1; what < 5; what++) {
                x.spread(i, what);
                x.distance(i, what, 0);
                x.joint(i, what);
                x.odds(i, what);
                x.minimal(i, what);
                x.ordered(i, what);
                x.busiest(i, what);
                x.cuts(i, what, what);
                x.explains(i, what);
                x.best(i, what);
                x.ofCause(i, what);
                x.ofSign(i, what);
                x.ofObject(i, what);
                x.ofRule(i, what);
            }
        }
        x.cover();
        x.status();
    }
}
