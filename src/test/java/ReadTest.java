import java.util.Arrays;
import java.util.Random;
import java.util.zip.Deflater;

/** Promises 4 and 5: read and fault. The faults themselves: the tests of the sections 2 and 3. */
public final class ReadTest {
    private static final Due DUE = new Due();
    private static final Random RANDOM = new Random(4711);

    public static void main(String[] args) {
        readsAll();
        takesThePlace();
        tapeStays();
        pictureStays();
        pictureStaysBehindEachFault();
        noneOrThePlace();
        faultOfTheLatest();
        faultAtFirst();
        DUE.finish();
    }

    private static byte[] small() {
        return Files.of(2, 1, 0, 16, 0).piece("IDAT", Reference.plainPacked(Files.row(0, 1, 2, 3, 4))).ended();
    }

    private static void readsAll() {
        DUE.sentence("The tape is read as a file .. without a fault it is the picture");
        for (int[] pair : Reference.KINDS) {
            for (int filter = 0; filter < 5; filter++) {
                allWays(pair[0], pair[1], filter, filter % 2 == 0);
                allWays(pair[0], pair[1], filter, filter % 2 == 1);
            }
        }
    }

    private static void allWays(int kind, int depth, int filter, boolean laced) {
        Reference like = new Reference(1 + RANDOM.nextInt(24), 1 + RANDOM.nextInt(24), kind, depth, laced);
        for (int k = 0; k < like.samples.length; k++) {
            like.samples[k] = (RANDOM.nextInt(4) == 0 ? RANDOM.nextInt(1 << depth) : k / 3) & (1 << depth) - 1;
        }
        byte[] raw = like.raw(filter);
        String what = "kind " + kind + ", depth " + depth + ", filter " + filter;
        same(what + ", as it is", like, Reference.plainPacked(raw));
        same(what + ", kind 1", like, Reference.shortPacked(raw));
        same(what + ", kind 2", like, Reference.deflated(raw, 9, Deflater.DEFAULT_STRATEGY));
        same(what + ", without copies", like, Reference.deflated(raw, 9, Deflater.HUFFMAN_ONLY));
    }

    private static void same(String what, Reference like, byte[] packed) {
        Files file = Files.of(like.width, like.height, like.kind, like.depth, like.laced ? 1 : 0);
        int colours = like.kind == 3 ? 1 << like.depth : 0;
        if (colours > 0) {
            byte[] bytes = new byte[3 * colours];
            Arrays.fill(bytes, (byte) 200);
            file.piece("PLTE", bytes);
        }
        PictureFile x = DUE.good(what, file.piece("IDAT", packed).ended());
        int[] about = {like.width, like.height, like.kind, like.depth, like.laced ? 1 : 0, colours, 0,
            like.bestFilters().length, like.bestRaw().length};
        for (int k = 0; k < about.length; k++) {
            DUE.same(what + ": about(" + k + ")", x.about(k), about[k]);
        }
        StringBuilder due = new StringBuilder();
        for (int sample : like.samples) {
            due.append(sample).append(' ');
        }
        DUE.same(what + ": samples", State.samples(x), due.toString());
    }

    private static void takesThePlace() {
        DUE.sentence("it is the picture, in place of the one there was");
        PictureFile x = new PictureFile();
        x.make(64, 64, 3, 8, true);
        for (int k = 1; k < 256; k++) {
            x.colour(k, k, k);
            x.thin(k, 0, 0);
        }
        x.fill(0, 0, 64, 64, 0, 255);
        Files.load(x, small());
        DUE.same("read", x.read(), PictureFile.NONE);
        int[] about = {2, 1, 0, 16, 0, 0, 0, 1, 5};
        for (int k = 0; k < about.length; k++) {
            DUE.same("about(" + k + ")", x.about(k), about[k]);
        }
        DUE.same("samples", State.samples(x), "258 772 ");
        DUE.outside("no colours", () -> x.ofColour(0, 0));
        DUE.outside("no thin numbers", () -> x.ofThin(0));
        // Read again, it is as it was at first.
        x.set(0, 0, 0, 9);
        x.thin(1, 1, 1);
        DUE.same("read again", x.read(), PictureFile.NONE);
        DUE.same("samples again", State.samples(x), "258 772 ");
        DUE.same("thin numbers again", x.about(6), 0);
        // What was read can be changed and written as any other.
        x.set(1, 0, 0, 65535);
        x.write(true);
        x.make(1, 1, 0, 1, false);
        DUE.same("read what was written", x.read(), PictureFile.NONE);
        DUE.same("samples", State.samples(x), "258 65535 ");
    }

    private static void tapeStays() {
        DUE.sentence("The tape is read as a file (it stays)");
        PictureFile x = new PictureFile();
        Files.load(x, small());
        String tape = State.tape(x);
        for (int turn = 0; turn < 3; turn++) {
            DUE.same("read", x.read(), PictureFile.NONE);
            DUE.same("the tape", State.tape(x), tape);
        }
        x.spoil(30, 1);
        tape = State.tape(x);
        for (int turn = 0; turn < 3; turn++) {
            DUE.same("read with a fault", x.read(), 29);
            DUE.same("the tape", State.tape(x), tape);
        }
    }

    private static void pictureStays() {
        DUE.sentence("the picture .. which stays else");
        PictureFile x = new PictureFile();
        Files.load(x, small());
        x.end(50);
        DUE.same("a fault, and no picture before it", x.read(), 50);
        DUE.same("no picture behind it", State.picture(x), "none");
        for (int[] pair : Reference.KINDS) {
            x.make(3, 5, pair[0], pair[1], true);
            x.set(2, 4, 0, pair[0] == 3 ? 0 : 1);
            String picture = State.picture(x);
            DUE.same("a fault", x.read(), 50);
            DUE.same("the picture", State.picture(x), picture);
        }
        // A picture that was read stays, too, and so does what was changed in it.
        Files.load(x, small());
        x.read();
        x.set(0, 0, 0, 4711);
        x.thin(9, 9, 9);
        String picture = State.picture(x);
        x.spoil(16, 1);
        x.mend(12, 17);
        DUE.same("a fault", x.read(), 16);
        DUE.same("the picture", State.picture(x), picture);
    }

    /** Whatever has been taken of a file before its fault, nothing of it is seen. */
    private static void pictureStaysBehindEachFault() {
        DUE.sentence("the picture .. which stays else (behind each fault)");
        byte[] file = Files.of(3, 2, 3, 8, 0).piece("PLTE", Files.row(1, 2, 3, 4, 5, 6)).piece("tRNS", Files.row(7, 8))
            .piece("IDAT", Reference.shortPacked(Files.row(0, 1, 1, 1, 2, 0, 0, 0))).ended();
        DUE.good("no fault", file);
        PictureFile x = new PictureFile();
        x.make(3, 2, 3, 8, true);
        x.colour(9, 9, 9);
        x.thin(77, 0, 0);
        x.set(2, 1, 0, 1);
        String picture = State.picture(x);
        for (int k = 0; k < file.length; k++) {
            Files.load(x, file);
            x.spoil(k, file[k] ^ 129);
            // The checks are made right again: the faults behind them come, too.
            x.mend(12, 17);
            x.mend(37, 10);
            x.mend(55, 6);
            if (file.length - 12 - 4 > 69) {
                x.mend(69, file.length - 12 - 4 - 69);
            }
            int place = x.read();
            if (place != PictureFile.NONE) {
                DUE.same("byte " + k + ", fault " + x.fault(), State.picture(x), picture);
            } else {
                x.make(3, 2, 3, 8, true);
                x.colour(9, 9, 9);
                x.thin(77, 0, 0);
                x.set(2, 1, 0, 1);
            }
        }
    }

    private static void noneOrThePlace() {
        DUE.sentence("NONE, or the place of its fault");
        PictureFile x = new PictureFile();
        DUE.same("an empty tape", x.read(), 0);
        Files.load(x, small());
        DUE.same("no fault", x.read(), -1);
        x.feed(0, 0, 0, 0, 0);
        DUE.same("a fault at the end", x.read(), small().length);
        x.end(0);
        DUE.same("an empty tape again", x.read(), 0);
    }

    private static void faultOfTheLatest() {
        DUE.sentence("The code of the fault of the latest read(); 0 if it had none");
        PictureFile x = new PictureFile();
        byte[][] files = {small(), Arrays.copyOf(small(), 3), Arrays.copyOf(small(), 40), small(),
            Arrays.copyOf(small(), small().length + 1), Files.of(0, 1, 0, 8, 0).ended(), small()};
        int[] codes = {0, 1, 2, 0, 11, 9, 0};
        for (int k = 0; k < files.length; k++) {
            Files.load(x, files[k]);
            DUE.same("before the read", x.fault(), k == 0 ? 0 : codes[k - 1]);
            x.read();
            DUE.same("the fault", x.fault(), codes[k]);
            DUE.same("the fault, asked again", x.fault(), codes[k]);
        }
        x.end(9);
        x.read();
        otherCalls(x, 2);
        Files.load(x, small());
        x.read();
        otherCalls(x, 0);
    }

    /** No call but read() changes the code. */
    private static void otherCalls(PictureFile x, int code) {
        x.make(1, 1, 3, 8, false);
        DUE.same("behind make", x.fault(), code);
        x.set(0, 0, 0, 0);
        x.fill(0, 0, 1, 1, 0, 0);
        x.colour(1, 2, 3);
        x.thin(1, 2, 3);
        x.filter(0);
        x.about(0);
        DUE.same("behind calls of the picture", x.fault(), code);
        x.write(true);
        DUE.same("behind write", x.fault(), code);
        x.feed(1, 2, 3, 4, 5);
        x.spoil(0, 1);
        x.mend(0, 4);
        x.end(10);
        DUE.same("behind calls of the tape", x.fault(), code);
        DUE.outside("a refused call", () -> x.byteAt(10));
        DUE.notLet("a refused call", () -> x.make(0, 0, 0, 0, false));
        DUE.same("behind refused calls", x.fault(), code);
    }

    private static void faultAtFirst() {
        DUE.sentence("fault(): 0 if .. there was none");
        PictureFile x = new PictureFile();
        DUE.same("a new object", x.fault(), 0);
        otherCalls(x, 0);
    }
}
