import com.sun.management.ThreadMXBean;
import java.lang.management.ManagementFactory;

/** The room that an object's 512 calls take: rows are made with the object, and a run makes nothing. */
final class RoomTest {
    private static final int CALLS = 512;
    private static final ThreadMXBean THREADS = (ThreadMXBean) ManagementFactory.getThreadMXBean();

    private static long bytes() {
        return THREADS.getThreadAllocatedBytes(Thread.currentThread().getId());
    }

    private static void atMost(Tester t, String what, long got, long limit) {
        System.out.println(what + ": " + got + " bytes");
        t.due(what + " takes at most " + limit + " bytes", got <= limit, true);
    }

    public static void main(String[] args) {
        Tester t = new Tester();
        newObject(t);
        runs(t);
        defines(t, "");
        defines(t, ".1");
        defines(t, "." + Tester.sum(20));
        t.finish("RoomTest");
    }

    private static void newObject(Tester t) {
        t.due("a first object, with which classes are loaded", new LazyGraphs().length(), 0);
        long start = bytes();
        LazyGraphs x = new LazyGraphs();
        long taken = bytes() - start;
        atMost(t, "a new object", taken, 64 * 1024);
        t.due("length", x.length(), 0);
    }

    private static void runs(Tester t) {
        String[] program = {"A.(F*680)", "Fnx.?n(F-n1" + "+1".repeat(12) + "x)+1x"};
        LazyGraphs x = t.with(program);
        x.run('A', 50);
        int calls = CALLS - 1 - program[0].length() - program[1].length();
        long start = bytes();
        for (int call = 0; call < calls; call++) {
            x.run('A', 50);
        }
        long taken = bytes() - start;
        atMost(t, calls + " runs", taken, 64 * 1024);
    }

    /** As many defines of the text as an object's calls allow. */
    private static void defines(Tester t, String text) {
        LazyGraphs x = new LazyGraphs();
        int defines = CALLS / (text.length() + 1);
        long start = bytes();
        for (int n = 0; n < defines; n++) {
            for (int p = 0; p < text.length(); p++) {
                x.type(text.charAt(p));
            }
            x.define('F');
        }
        long taken = bytes() - start;
        atMost(t, defines + " defines of " + text.length() + " characters", taken, 256 * 1024);
    }
}
