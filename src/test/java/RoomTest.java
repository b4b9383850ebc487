import java.lang.management.ManagementFactory;

/** The room: what 512 of the dearest calls make stays far below 600,000 objects and 7.3 million elements. */
public final class RoomTest {
    private static final String[] BUSY = {
        "C1( N C2( N P1( 1 ) N P2( 2 ) ) N F2( N P1( ) N P2( ) ) )",
        "P1( ) P1( ) P2( ) C2( N P1( ) N P2( ) ) C3( N P2( ) )",
        "P1( ) P2( ) C3( N P1( ) P1( ) P1( ) ) C4( N P2( ) )",
        "P1( ) P1( ) C4( N P1( ) ) C5( N P1( ) ) C6( )",
        "P1( ) C5( N F1( N P1( ) N 2 N 3 N P1( ) ) ) C6( N 1 )",
        "P1( ) P1( ) F6( N 0 N P1( ) N 2 N 3 ) C6( N P1( ) ) K1",
        "P1( ) F5( N 1 ) F4( N 1 ) P1( ) K2",
    };

    private RoomTest() { }

    public static void main(String[] args) {
        com.sun.management.ThreadMXBean threads = (com.sun.management.ThreadMXBean) ManagementFactory.getThreadMXBean();
        long thread = Thread.currentThread().getId();
        run();
        long before = threads.getThreadAllocatedBytes(thread);
        int calls = run();
        long bytes = threads.getThreadAllocatedBytes(thread) - before;
        System.out.println(calls + " calls made " + bytes + " bytes");
        Check.yes("a run makes less than 2 million bytes", bytes < 2000000);
        Check.end();
    }

    /** One object, 512 calls, most of them renderings of four pages each. */
    private static int run() {
        Weaveword w = new Weaveword();
        int calls = 0;
        for (int i = 0; i < BUSY.length; i++) {
            Check.page(w, i, BUSY[i]);
            calls += BUSY[i].split(" ").length + 1;
        }
        w.instruct(0, 1, 0);
        w.instruct(0, 1, 1);
        w.instruct(0, 2, 0);
        w.instruct(0, 8, 0);
        calls += 4;
        for (; calls + 4 <= 512; calls += 4) {
            w.work(4);
            w.instruct(0, 0, 0);
            w.empty(0);
            w.shownAnew(0, 149);
        }
        return calls;
    }
}
