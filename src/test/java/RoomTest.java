import com.sun.management.ThreadMXBean;
import java.lang.management.ManagementFactory;

/** That an object takes little room, and its calls none: what a run makes is never given back. */
public final class RoomTest {
    private static final int MOST_OF_ONE = 32000;
    /** Room for what the machine itself may take while it measures. */
    private static final int SLACK = 4000;

    private static final ThreadMXBean THREADS =
        (ThreadMXBean) ManagementFactory.getThreadMXBean();

    public static void main(String[] args) {
        use(Due.housed(Due.SIX));
        LiftEnvy[] kept = new LiftEnvy[100];
        long before = taken();
        for (int k = 0; k < kept.length; k++) {
            kept[k] = new LiftEnvy();
        }
        long each = (taken() - before) / kept.length;
        if (each > MOST_OF_ONE) {
            Due.fail("an object takes " + each + " bytes");
        }
        LiftEnvy x = Due.housed(Due.SIX);
        before = taken();
        int answers = 0;
        for (int k = 0; k < 5; k++) {
            answers += use(x);
        }
        long calls = taken() - before;
        if (calls > SLACK) {
            Due.fail("calls take " + calls + " bytes");
        }
        System.out.println(each + " bytes an object, " + calls + " for its calls (" + answers + ")");
        Due.end();
    }

    private static long taken() {
        return THREADS.getThreadAllocatedBytes(Thread.currentThread().getId());
    }

    private static int use(LiftEnvy x) {
        int sum = x.row(0, 2, 16) + x.set(0, 3, 4) + x.copy(0, 0, 0, 1, 9) + x.row(1, 0, 40);
        sum += x.drop(1) + x.hide(1) + x.drawn(60, 8, 0) + x.first(0) + x.never() + x.car(2);
        for (int p = 0; p < 6; p++) {
            sum += x.when(p) + x.least(p, 60) + x.beside(p, 0) + x.hidden(p, 60, 4, 0);
            sum += x.fits(p, 0, 0, 16, 1) + x.ask(p, 0) + x.as(p, 4) + x.show(p, 3) + x.walk(p, 1);
        }
        sum += x.steps(24) + x.undo() + x.image(0) + x.restore(0) + x.feed('f') + x.house();
        return sum + x.trace(0) + x.count(0) + x.status() + x.fault() + x.ahead(60, 0);
    }
}
