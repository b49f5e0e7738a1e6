import com.sun.management.ThreadMXBean;
import java.lang.management.ManagementFactory;

/** All calls of a run share one room: an object is small, and no call that answers makes anything. */
public final class RoomTest {
    private static final int ROUNDS = 2_000;
    private static final int MOST_BYTES_OF_AN_OBJECT = 1_000;

    private static ThreadMXBean meter;
    private static FileJudge kept;

    public static void main(String[] args) {
        meter = (ThreadMXBean) ManagementFactory.getThreadMXBean();
        everything(Sample.full(), new FileJudge());
        callsMakeNothing("a good file", Sample.full());
        callsMakeNothing("a file without sections", Sample.segments());
        callsMakeNothing("a file that is not good", Sample.full().symbolPart(2, Sample.Y_INFO, 0));
        anObjectIsSmall();
        Expect.end();
    }

    private static void callsMakeNothing(String what, Sample s) {
        FileJudge[] each = new FileJudge[ROUNDS];
        for (int i = 0; i < ROUNDS; i++) {
            each[i] = new FileJudge();
        }
        long before = meter.getThreadAllocatedBytes(Thread.currentThread().getId());
        for (FileJudge x : each) {
            everything(s, x);
        }
        long made = meter.getThreadAllocatedBytes(Thread.currentThread().getId()) - before;
        // The meter itself may make a little; one object a round would be far above this.
        Expect.same(what + ": bytes made by " + ROUNDS + " rounds of calls are below " + ROUNDS + " (" + made + ")",
            "true", Boolean.toString(made < ROUNDS));
    }

    private static void everything(Sample s, FileJudge x) {
        x.clear();
        Sample.feedTo(x, s.bytes);
        x.spoil(50, 1);
        int rule = x.judge();
        x.broken();
        if (rule == 0) {
            questions(x);
        }
    }

    private static void questions(FileJudge x) {
        int segments = x.many(0);
        for (int k = 0; k < segments; k++) {
            for (int what = 0; what < 7; what++) {
                x.segment(k, what);
            }
        }
        int sections = x.many(1);
        for (int k = 0; k < sections; k++) {
            for (int what = 0; what < 7; what++) {
                x.section(k, what);
            }
            for (int i = 0; i < x.section(k, 6); i++) {
                x.letter(k, i);
            }
            for (int i = 0; i < x.symbols(k); i++) {
                for (int what = 0; what < 5; what++) {
                    x.symbol(k, i, what);
                }
            }
        }
        x.find(0x1040);
        x.find(-1);
    }

    private static void anObjectIsSmall() {
        long before = meter.getThreadAllocatedBytes(Thread.currentThread().getId());
        for (int i = 0; i < ROUNDS; i++) {
            kept = new FileJudge();
        }
        long made = meter.getThreadAllocatedBytes(Thread.currentThread().getId()) - before;
        Expect.same("bytes of an object (" + made / ROUNDS + ")", "true",
            Boolean.toString(made / ROUNDS <= MOST_BYTES_OF_AN_OBJECT));
        Expect.answer("an object made last", 1, kept::judge);
    }
}
