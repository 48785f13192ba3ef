import java.lang.management.ManagementFactory;

/** All calls of a run live in one room: an object is small, and its calls make nothing. */
public final class RoomTest {
    /** Far below what a single row a call would take, far above what the measuring itself may. */
    private static final long MOST_BYTES_OF_CALLS = 2000;
    private static final long MOST_BYTES_OF_OBJECT = 20000;

    public static void main(String[] args) {
        Check check = new Check();
        com.sun.management.ThreadMXBean memory =
            (com.sun.management.ThreadMXBean) ManagementFactory.getThreadMXBean();
        callAll(new ReadFromRight(), 20);
        memory.getCurrentThreadAllocatedBytes();
        long start = memory.getCurrentThreadAllocatedBytes();
        ReadFromRight x = new ReadFromRight();
        long made = memory.getCurrentThreadAllocatedBytes();
        callAll(x, 30);
        long called = memory.getCurrentThreadAllocatedBytes();
        check.isTrue("an object has room for itself: " + (made - start), made - start <= MOST_BYTES_OF_OBJECT);
        check.isTrue("calls make nothing: " + (called - made), called - made <= MOST_BYTES_OF_CALLS);
        check.end();
    }

    private static void callAll(ReadFromRight x, int times) {
        for (int i = 0; i < times; i++) {
            x.wipe();
            x.type('7');
            x.type('w');
            x.set(0, 2 + i % 35);
            x.set(3, 4);
            x.sheet(i % 4, i % 3, 60);
            x.lay(i % 4, i % 3, 5, i);
            x.get(i % 4, i % 3, 5);
            x.copy(i % 4, 0, i % 4, 1, 20);
            x.write(9999, i % 4);
            x.read(i % 4);
            x.smudged(i % 4, 0);
            x.digest();
            x.rent(120, 6, 1);
            x.game(0, 1022, 200, 0);
            x.lose(i % 4);
        }
    }
}
