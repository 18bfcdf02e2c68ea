import com.sun.management.ThreadMXBean;
import java.lang.management.ManagementFactory;
import java.util.function.IntUnaryOperator;

/** Calls use the rows that the constructor has made: only add() may make something new. */
public final class RoomTest {
    private static final int CALLS = 512;
    /** Far more than what the measuring itself takes, far less than one object a call. */
    private static final long NOTHING = 4096;
    private static final ThreadMXBean THREADS = (ThreadMXBean) ManagementFactory.getThreadMXBean();

    public static void main(String[] args) {
        Check check = new Check();
        CutConformer x = new CutConformer();
        for (int p = 0; p < 2; p++) x.piece(100 * p, 900);
        for (int k = 0; k < 20; k++) x.shot(40 * k + 30, true);
        for (int i = 0; i < 7; i++) Check.add(x, 40 * i, 40 * i + 50, i % 4, "a text, not so short, and with blanks");
        limited(check, "set", NOTHING, i -> x.set(0, 1 + i % 20));
        limited(check, "shot", NOTHING, i -> x.shot(30, i % 2 == 0));
        limited(check, "move", NOTHING, i -> x.move(0, 300 - 40 * (i % 7), 900));
        limited(check, "part", NOTHING, i -> x.part(0, 0, 3));
        limited(check, "faults", NOTHING, i -> x.faults(0));
        limited(check, "ifConform", NOTHING, i -> x.ifConform(31, 2));
        limited(check, "conform and undo", NOTHING, i -> x.conform(31) + x.undo());
        limited(check, "digest", NOTHING, i -> (int) x.digest());
        limited(check, "add and drop", CALLS * 128, i -> x.add(5, 50, 2) + x.drop(0));
        limited(check, "new", CALLS * 20000, i -> new CutConformer().told(0));
        check.end("RoomTest");
    }

    private static void limited(Check check, String name, long limit, IntUnaryOperator call) {
        int sum = 0;
        for (int i = 0; i < 20; i++) sum += call.applyAsInt(i);
        long before = THREADS.getThreadAllocatedBytes(Thread.currentThread().getId());
        for (int i = 0; i < CALLS; i++) sum += call.applyAsInt(i);
        long made = THREADS.getThreadAllocatedBytes(Thread.currentThread().getId()) - before;
        if (made > limit) System.out.println(name + " made " + made + " bytes, allowed are " + limit + " (" + sum + ")");
        check.holds("room of " + name, made <= limit);
    }
}
