import java.lang.management.ManagementFactory;
import java.util.Random;
import java.util.function.Consumer;

/** Runs of 512 calls, the dearest ones: their answers hold, and all room is made with the object. */
public final class RoomTest {
    private static final Due DUE = new Due();
    private static final int CALLS = 512;
    /** Far below 7.3 million elements, of four bytes each; calls that are refused make an exception each. */
    private static final long MOST_OF_NEW = 8L << 20;
    private static final long MOST_OF_CALLS = 1L << 20;

    private static int calls;

    public static void main(String[] args) {
        DUE.sentence("An object is used for at most 512 calls after it has been made");
        loadClasses();
        run("writes of the largest picture", RoomTest::writes);
        run("reads of the largest picture", RoomTest::reads);
        run("reads with a fault", RoomTest::faults);
        run("fed, read and written short", RoomTest::fed);
        run("fed alone", RoomTest::feeds);
        run("pictures made", RoomTest::makes);
        run("filled and asked for filters", RoomTest::fills);
        run("refused", RoomTest::refused);
        DUE.finish();
    }

    /** They take room when they are first used, which is not the program's own. */
    private static void loadClasses() {
        PictureFile x = new PictureFile();
        x.make(1, 1, 0, 8, true);
        x.write(true);
        DUE.same("read", x.read(), PictureFile.NONE);
        DUE.lacksPicture("refused", () -> new PictureFile().about(0));
    }

    private static void run(String what, Consumer<PictureFile> all) {
        calls = 0;
        long before = allocated();
        PictureFile x = new PictureFile();
        long made = allocated();
        all.accept(x);
        long end = allocated();
        DUE.same(what + ": calls", calls, CALLS);
        DUE.that(what + ": a new object takes " + (made - before) + " bytes", made - before < MOST_OF_NEW);
        DUE.that(what + ": its calls take " + (end - made) + " bytes", end - made < MOST_OF_CALLS);
    }

    private static long allocated() {
        com.sun.management.ThreadMXBean bean =
            (com.sun.management.ThreadMXBean) ManagementFactory.getThreadMXBean();
        return bean.getCurrentThreadAllocatedBytes();
    }

    /** Whether there is a call left; it is counted. */
    private static boolean another() {
        if (calls == CALLS) {
            return false;
        }
        calls++;
        return true;
    }

    private static void is(int got, int want) {
        if (got != want) {
            DUE.same("call " + calls, got, want);
        }
    }

    private static void writes(PictureFile x) {
        x.make(64, 64, 6, 16, true);
        calls = 1;
        while (calls < 200) {
            calls++;
            x.set(calls * 7 % 64, calls * 11 % 64, calls % 4, calls * 4711 & 65535);
        }
        int size = 0;
        for (boolean shorter = true; another(); shorter = !shorter) {
            int n = x.write(shorter);
            if (shorter) {
                size = size == 0 ? n : size;
                is(n, size);
            } else {
                is(n, 32956);
            }
        }
    }

    private static void reads(PictureFile x) {
        x.make(64, 64, 6, 16, true);
        x.set(63, 63, 3, 65535);
        x.write(false);
        calls = 3;
        while (another()) {
            is(x.read(), PictureFile.NONE);
        }
        DUE.same("the last sample", x.sample(63, 63, 3), 65535);
    }

    private static void faults(PictureFile x) {
        x.make(64, 64, 3, 8, true);
        x.write(false);
        // The last point's byte is another one, and the sum is not: then its check is made right.
        int end = x.write(false);
        x.spoil(end - 21, 1);
        x.mend(48 + 4, end - 12 - 4 - 52);
        calls = 5;
        while (another()) {
            is(x.read(), end - 20);
        }
        DUE.same("the fault", x.fault(), 28);
    }

    /** A file of some five thousand bytes, the largest picture, in which long chains of copies are to be tried. */
    private static final byte[] FILE = file();

    private static byte[] file() {
        Reference like = new Reference(64, 64, 6, 16, true);
        Random random = new Random(5);
        for (int k = 0; k < like.samples.length; k++) {
            like.samples[k] = random.nextInt(2);
        }
        return Files.of(64, 64, 6, 16, 1).piece("IDAT", Reference.deflated(like.bestRaw(), 9, 0)).ended();
    }

    private static void feed(PictureFile x, int at) {
        int[] n = new int[5];
        for (int i = 0; i < 20; i++) {
            n[i / 4] = n[i / 4] << 8 | (at + i < FILE.length ? FILE[at + i] & 255 : 0);
        }
        x.feed(n[0], n[1], n[2], n[3], n[4]);
    }

    private static void fed(PictureFile x) {
        for (int at = 0; at < FILE.length; at += 20) {
            another();
            feed(x, at);
        }
        another();
        x.end(FILE.length);
        another();
        is(x.read(), PictureFile.NONE);
        int size = 0;
        for (boolean write = true; another(); write = !write) {
            if (write) {
                int n = x.write(true);
                size = size == 0 ? n : size;
                is(n, size);
            } else {
                is(x.read(), PictureFile.NONE);
            }
        }
        DUE.that("some calls were left for writes", size > 1000);
    }

    private static void feeds(PictureFile x) {
        for (int n = 20; another(); n += 20) {
            is(x.feed(n, n, n, n, n), n);
        }
        DUE.same("the last byte", x.byteAt(20 * CALLS - 1), 20 * CALLS & 255);
    }

    private static void makes(PictureFile x) {
        while (another()) {
            x.make(64, 64, calls % 2 == 0 ? 6 : 3, calls % 2 == 0 ? 16 : 8, true);
        }
        DUE.same("raw bytes", x.about(8), 32888);
    }

    private static void fills(PictureFile x) {
        x.make(64, 64, 6, 16, true);
        calls = 1;
        for (int k = 0; another(); k++) {
            if (k % 2 == 0) {
                x.fill(0, 0, 64, 64, k / 2 % 4, 65535 - k);
            } else {
                is(x.filter(k % 120) < 5 ? 1 : 0, 1);
            }
        }
        DUE.same("the last fill", x.sample(63, 63, 510 / 2 % 4), 65535 - 510);
    }

    private static void refused(PictureFile x) {
        int thrown = 0;
        while (another()) {
            try {
                x.write(true);
            } catch (IllegalStateException e) {
                thrown++;
            }
        }
        DUE.same("refused", thrown, CALLS);
        DUE.same("the fault", x.fault(), 0);
    }
}
