import com.sun.management.ThreadMXBean;
import java.lang.management.ManagementFactory;

/** The room that calls take: rows are made with the object, and a run makes nothing. */
final class RoomTest {
    private static final ThreadMXBean THREADS = (ThreadMXBean) ManagementFactory.getThreadMXBean();

    private static long bytes() {
        return THREADS.getThreadAllocatedBytes(Thread.currentThread().getId());
    }

    private static void atMost(Tester t, String what, long got, long limit) {
        System.out.println(what + ": " + got + " bytes");
        t.due(what + " takes at most " + limit + " bytes", got <= limit, true);
    }

    public static void main(String[] args) {
        Tester t = new Tester();
        LazyGraphs warm = dear(t);
        warm.run('A', 50);

        long start = bytes();
        LazyGraphs x = new LazyGraphs();
        atMost(t, "a new object", bytes() - start, 64 * 1024);
        t.due("length", x.length(), 0);

        LazyGraphs dear = dear(t);
        start = bytes();
        for (int call = 0; call < 450; call++) {
            dear.run('A', 50);
        }
        atMost(t, "450 runs", bytes() - start, 64 * 1024);

        String text = "Fnx.?n(F-n1" + "+1".repeat(12) + "x)+1x";
        start = bytes();
        for (int call = 0; call < 512; call++) {
            for (int p = 1; p < text.length(); p++) {
                x.type(text.charAt(p));
            }
            x.define('F');
        }
        atMost(t, "512 defines", bytes() - start, 1024 * 1024);
        t.finish("RoomTest");
    }

    private static LazyGraphs dear(Tester t) {
        return t.with("A.(F*680)", "Fnx.?n(F-n1" + "+1".repeat(12) + "x)+1x");
    }
}
