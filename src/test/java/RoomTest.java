import java.lang.management.ManagementFactory;

/** 512 calls with the largest pictures and tapes: all room is made with the object. */
public final class RoomTest {
    private static final Due DUE = new Due();
    /** Far below 7.3 million elements, of four bytes each; calls that are refused make an exception each. */
    private static final long MOST_OF_NEW = 8L << 20;
    private static final long MOST_OF_CALLS = 1L << 20;

    public static void main(String[] args) {
        // The first object loads classes, which is not the program's own room.
        run(new PictureFile());
        long before = allocated();
        PictureFile x = new PictureFile();
        long made = allocated();
        run(x);
        long end = allocated();
        DUE.that("a new object takes " + (made - before) + " bytes", made - before < MOST_OF_NEW);
        DUE.that("its calls take " + (end - made) + " bytes", end - made < MOST_OF_CALLS);
        DUE.finish();
    }

    private static long allocated() {
        com.sun.management.ThreadMXBean bean =
            (com.sun.management.ThreadMXBean) ManagementFactory.getThreadMXBean();
        return bean.getCurrentThreadAllocatedBytes();
    }

    private static void run(PictureFile x) {
        int calls = 0;
        x.make(64, 64, 6, 16, true);
        for (; calls < 200; calls++) {
            x.set(calls * 7 % 64, calls * 11 % 64, calls % 4, calls * 4711 & 65535);
        }
        for (; calls < 511; calls += 3) {
            DUE.that("write", x.write(calls % 2 == 0) > 100);
            DUE.same("read", x.read(), PictureFile.NONE);
            DUE.that("filter", x.filter(calls % 120) < 5);
        }
    }
}
