import java.util.zip.CRC32;

/** Promises 1, 2, 3, 17, 18, 19: a new object, feed, end, byteAt, spoil, mend. */
public final class TapeTest {
    private static final Due DUE = new Due();
    private static final int MIN = Integer.MIN_VALUE;
    private static final int MAX = Integer.MAX_VALUE;

    public static void main(String[] args) {
        noPicture();
        emptyTape();
        feed();
        feedToTheEdge();
        end();
        endRefused();
        byteAt();
        spoil();
        mend();
        mendRefused();
        DUE.finish();
    }

    /** A tape with bytes 1, 2, .. 20, a picture and a fault. */
    private static PictureFile some() {
        PictureFile x = new PictureFile();
        x.make(2, 3, 3, 2, true);
        x.feed(0x01020304, 0x05060708, 0x090A0B0C, 0x0D0E0F10, 0x11121314);
        x.read();
        return x;
    }

    private static void outside(String what, PictureFile x, java.util.function.Consumer<PictureFile> call) {
        DUE.keeps(IndexOutOfBoundsException.class, what, x, call);
    }

    private static void noPicture() {
        DUE.sentence("PictureFile(): No picture");
        PictureFile x = new PictureFile();
        DUE.same("NONE", PictureFile.NONE, -1);
        DUE.same("the picture", State.picture(x), "none");
        DUE.same("fault()", x.fault(), 0);
        DUE.sentence("PictureFile(): .. an empty tape");
        DUE.same("the tape", State.tape(x), "end");
        DUE.same("the first feed", x.feed(1, 2, 3, 4, 5), 20);
        // Objects have nothing in common.
        DUE.same("another object's tape", State.tape(new PictureFile()), "end");
    }

    private static void emptyTape() {
        DUE.sentence("an empty tape (each call on it)");
        PictureFile x = new PictureFile();
        for (int k : new int[] {0, 1, -1, MIN, MAX}) {
            outside("byteAt(" + k + ")", x, y -> y.byteAt(k));
            outside("spoil(" + k + ", 1)", x, y -> y.spoil(k, 1));
            outside("mend(" + k + ", 0)", x, y -> y.mend(k, 0));
        }
        DUE.keeps(IllegalArgumentException.class, "end(1)", x, y -> y.end(1));
        x.end(0);
        DUE.same("read()", x.read(), 0);
        DUE.same("its fault", x.fault(), 1);
        DUE.same("no picture behind it", State.picture(x), "none");
    }

    private static void feed() {
        DUE.sentence("Twenty bytes more of the tape, the highest of each number first: how many it has");
        PictureFile x = new PictureFile();
        DUE.same("feed", x.feed(0x01020304, -1, MIN, 0x7F00FF10, MAX), 20);
        DUE.same("the tape", State.tape(x), "1 2 3 4 255 255 255 255 128 0 0 0 127 0 255 16 127 255 255 255 end");
        DUE.same("feed again", x.feed(0, 1, 256, 65536, 0x01000000), 40);
        DUE.same("byte 19", x.byteAt(19), 255);
        DUE.same("byte 20", x.byteAt(20), 0);
        DUE.same("byte 27", x.byteAt(27), 1);
        DUE.same("byte 30", x.byteAt(30), 1);
        DUE.same("byte 33", x.byteAt(33), 1);
        DUE.same("byte 36", x.byteAt(36), 1);
        DUE.same("byte 39", x.byteAt(39), 0);
        x.end(3);
        DUE.same("feed behind end(3)", x.feed(0x11121314, 0, 0, 0, 0), 23);
        DUE.same("byte 2", x.byteAt(2), 3);
        DUE.same("byte 3", x.byteAt(3), 0x11);
        x.make(1, 1, 0, 8, false);
        int n = x.write(false);
        DUE.same("feed behind write", x.feed(7, 0, 0, 0, 0), n + 20);
        DUE.same("its bytes", x.byteAt(n + 3), 7);
    }

    /** More calls than are promised, as a tape cannot be filled by fewer. */
    private static void feedToTheEdge() {
        DUE.sentence("UnsupportedOperationException: they would be more than 65536");
        PictureFile x = new PictureFile();
        for (int n = 20; n <= 65520; n += 20) {
            DUE.same("feed", x.feed(n, n, n, n, n), n);
        }
        for (int n = 65520; n > 65516; n--) {
            x.end(n);
            DUE.keeps(UnsupportedOperationException.class, "feed behind " + n, x, y -> y.feed(1, 2, 3, 4, 5));
        }
        x.end(65516);
        DUE.same("feed to the edge", x.feed(1, 2, 3, 4, 5), 65536);
        DUE.same("the last byte", x.byteAt(65535), 5);
        DUE.keeps(UnsupportedOperationException.class, "feed at the edge", x, y -> y.feed(MAX, MIN, 3, 4, 5));
        DUE.same("read", x.read(), 0);
        x.spoil(65535, 9);
        DUE.same("the last byte", x.byteAt(65535), 9);
        outside("byteAt(65536)", x, y -> y.byteAt(65536));
        outside("spoil(65536, 1)", x, y -> y.spoil(65536, 1));
        x.mend(0, 65532);
        outside("mend beyond the edge", x, y -> y.mend(0, 65533));
        outside("mend beyond the edge", x, y -> y.mend(65533, 0));
        DUE.keeps(IllegalArgumentException.class, "end(65537)", x, y -> y.end(65537));
        x.end(65536);
        x.make(64, 64, 6, 16, true);
        DUE.same("write in place of it", x.write(false), 32956);
    }

    private static void end() {
        DUE.sentence("The tape keeps its first n bytes.");
        PictureFile x = some();
        x.end(20);
        DUE.same("end(20)", State.tape(x), "1 2 3 4 5 6 7 8 9 10 11 12 13 14 15 16 17 18 19 20 end");
        x.end(19);
        DUE.same("byte 18", x.byteAt(18), 19);
        outside("byte 19", x, y -> y.byteAt(19));
        x.end(2);
        DUE.same("end(2)", State.tape(x), "1 2 end");
        x.end(1);
        DUE.same("end(1)", State.tape(x), "1 end");
        x.end(0);
        DUE.same("end(0)", State.tape(x), "end");
        x.end(0);
        DUE.same("end(0) again", State.tape(x), "end");
        DUE.same("the fault stays", x.fault(), 1);
        DUE.same("the picture stays", x.about(1), 3);
        DUE.same("feed", x.feed(0, 0, 0, 0, 0), 20);
    }

    private static void endRefused() {
        DUE.sentence("IllegalArgumentException: n is below 0, or it has not so many");
        PictureFile x = some();
        for (int n : new int[] {-1, -20, MIN, MIN + 1, 21, 22, 65536, MAX}) {
            DUE.keeps(IllegalArgumentException.class, "end(" + n + ")", x, y -> y.end(n));
        }
        x.end(7);
        // What is cut off does not come back.
        DUE.keeps(IllegalArgumentException.class, "end(8)", x, y -> y.end(8));
        DUE.keeps(IllegalArgumentException.class, "end(20)", x, y -> y.end(20));
        x.end(7);
    }

    private static void byteAt() {
        DUE.sentence("Byte k of the tape. IndexOutOfBoundsException.");
        PictureFile x = some();
        for (int k = 0; k < 20; k++) {
            DUE.same("byteAt(" + k + ")", x.byteAt(k), k + 1);
        }
        for (int k : new int[] {-1, MIN, MIN + 1, 20, 21, 65535, 65536, MAX}) {
            outside("byteAt(" + k + ")", x, y -> y.byteAt(k));
        }
    }

    private static void spoil() {
        DUE.sentence("Byte k of the tape becomes another one (the lowest eight bits).");
        int[] values = {0, 1, 127, 128, 255, 256, 0x1234, -1, -2, -256, MIN, MAX};
        for (int value : values) {
            for (int k : new int[] {0, 7, 19}) {
                PictureFile x = some();
                x.spoil(k, value);
                for (int i = 0; i < 20; i++) {
                    DUE.same("byte " + i + " behind spoil(" + k + ", " + value + ")", x.byteAt(i),
                        i == k ? value & 255 : i + 1);
                }
                outside("the tape's end", x, y -> y.byteAt(20));
                DUE.same("the fault stays", x.fault(), 1);
            }
        }
        DUE.sentence("spoil: IndexOutOfBoundsException");
        PictureFile x = some();
        for (int k : new int[] {-1, MIN, 20, 21, 65535, 65536, MAX}) {
            outside("spoil(" + k + ", 1)", x, y -> y.spoil(k, 1));
        }
    }

    private static void mend() {
        DUE.sentence("The tape's bytes from k on, up to before k + n, are a type and bytes: their check becomes the four "
            + "bytes behind them.");
        PictureFile x = new PictureFile();
        x.feed(0x49454E44, 0, -1, 0x01FF80FE, 77);
        x.mend(0, 4);
        DUE.same("the check of IEND", word(x, 4), 0xAE426082L);
        for (int k = 0; k <= 16; k++) {
            for (int n = 0; k + n <= 16; n++) {
                x = some();
                CRC32 check = new CRC32();
                for (int i = 0; i < n; i++) {
                    check.update(x.byteAt(k + i));
                }
                x.mend(k, n);
                String what = "mend(" + k + ", " + n + ")";
                DUE.same(what, word(x, k + n), check.getValue());
                for (int i = 0; i < 20; i++) {
                    if (i < k + n || i >= k + n + 4) {
                        DUE.same(what + ", byte " + i, x.byteAt(i), i + 1);
                    }
                }
                outside(what + ": the tape's end", x, y -> y.byteAt(20));
            }
        }
    }

    private static void mendRefused() {
        DUE.sentence("IndexOutOfBoundsException: n is below 0, or these bytes, with the four, are not all there");
        PictureFile x = some();
        int[][] wrong = {{0, -1}, {5, -1}, {20, -4}, {20, -20}, {0, MIN}, {5, MIN}, {0, 17}, {16, 1}, {17, 0}, {20, 0},
            {0, 20}, {-1, 0}, {-1, 1}, {-1, 4}, {-4, 4}, {MIN, 0}, {MIN, MAX}, {MAX, 0}, {MAX, 1}, {MAX, MAX}, {0, MAX},
            {16, MAX - 16}, {MAX, MIN}, {MIN, MIN}, {4, MAX - 3}, {0, MAX - 3}, {MAX - 3, 0}, {1, MAX}};
        for (int[] at : wrong) {
            outside("mend(" + at[0] + ", " + at[1] + ")", x, y -> y.mend(at[0], at[1]));
        }
        x.mend(0, 16);
        x.mend(16, 0);
        x.mend(0, 0);
        x.end(19);
        outside("mend(0, 16), with 19 bytes", x, y -> y.mend(0, 16));
        outside("mend(16, 0), with 19 bytes", x, y -> y.mend(16, 0));
        x.mend(15, 0);
        x.end(3);
        outside("mend(0, 0), with 3 bytes", x, y -> y.mend(0, 0));
    }

    private static long word(PictureFile x, int k) {
        return (long) x.byteAt(k) << 24 | x.byteAt(k + 1) << 16 | x.byteAt(k + 2) << 8 | x.byteAt(k + 3);
    }
}
