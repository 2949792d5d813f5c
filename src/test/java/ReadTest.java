import java.util.Arrays;
import java.util.Random;
import java.util.zip.Deflater;

/** Promises 4 and 5: files without a fault. Those with one: PieceFaultTest and PackedFaultTest. */
public final class ReadTest {
    private static final Due DUE = new Due();
    private static final Random RANDOM = new Random(4711);

    public static void main(String[] args) {
        for (int[] pair : Reference.KINDS) {
            for (int filter = 0; filter < 5; filter++) {
                allWays(pair[0], pair[1], filter, filter % 2 == 0);
                allWays(pair[0], pair[1], filter, filter % 2 == 1);
            }
        }
        leftBits();
        manyPieces();
        leftOut();
        oldPictureGoes();
        blocksOfAllKinds();
        everyLengthAndDistance();
        oneDistanceOrNone();
        repeatsGoOver();
        smallWindow();
        DUE.finish();
    }

    private static void allWays(int kind, int depth, int filter, boolean laced) {
        Reference like = new Reference(1 + RANDOM.nextInt(24), 1 + RANDOM.nextInt(24), kind, depth, laced);
        for (int k = 0; k < like.samples.length; k++) {
            like.samples[k] = (RANDOM.nextInt(4) == 0 ? RANDOM.nextInt(1 << depth) : k / 3) & (1 << depth) - 1;
        }
        byte[] raw = like.raw(filter);
        String what = "kind " + kind + ", depth " + depth + ", filter " + filter;
        same(what + ", as it is", like, Reference.plainPacked(raw));
        same(what + ", kind 1", like, Reference.shortPacked(raw));
        same(what + ", kind 2", like, Reference.deflated(raw, 9, Deflater.DEFAULT_STRATEGY));
        same(what + ", without copies", like, Reference.deflated(raw, 9, Deflater.HUFFMAN_ONLY));
    }

    private static void same(String what, Reference like, byte[] packed) {
        Files file = Files.of(like.width, like.height, like.kind, like.depth, like.laced ? 1 : 0);
        int colours = like.kind == 3 ? 1 << like.depth : 0;
        if (colours > 0) {
            byte[] bytes = new byte[3 * colours];
            Arrays.fill(bytes, (byte) 200);
            file.piece("PLTE", bytes);
        }
        PictureFile x = DUE.good(what, file.piece("IDAT", packed).ended());
        int[] about = {like.width, like.height, like.kind, like.depth, like.laced ? 1 : 0, colours, 0,
            like.bestFilters().length, like.bestRaw().length};
        for (int k = 0; k < about.length; k++) {
            DUE.same(what + ": about(" + k + ")", x.about(k), about[k]);
        }
        for (int k = 0; k < like.samples.length; k++) {
            int point = k / like.channels;
            DUE.same(what + ": sample " + k,
                x.sample(point % like.width, point / like.width, k % like.channels), like.samples[k]);
        }
    }

    /** What is left of a row's last byte counts for nothing, but for the guesses. */
    private static void leftBits() {
        byte[] raw = {0, (byte) 0b10111111, 2, (byte) 0b11000001};
        PictureFile x = DUE.good("left bits",
            Files.of(1, 2, 0, 2, 0).piece("IDAT", Reference.plainPacked(raw)).ended());
        DUE.same("the first row", x.sample(0, 0, 0), 0b10);
        // 10111111 and 11000001 are 10000000, modulo 256.
        DUE.same("the second row", x.sample(0, 1, 0), 0b10);
        x.write(false);
        DUE.same("its first byte is written with 0s", x.byteAt(41 + 8), 0b10000000);
    }

    private static void manyPieces() {
        Reference like = new Reference(9, 9, 2, 8, false);
        for (int k = 0; k < like.samples.length; k++) {
            like.samples[k] = k & 255;
        }
        byte[] packed = Reference.deflated(like.raw(0), 9, 0);
        Files file = Files.of(9, 9, 2, 8, 0).piece("IDAT");
        for (int k = 0; k < packed.length; k++) {
            file.piece("IDAT", packed[k]);
            if (k % 7 == 0) {
                file.piece("IDAT");
            }
        }
        PictureFile x = DUE.good("a piece for each byte", file.ended());
        DUE.same("its sample", x.sample(8, 8, 2), 242);
    }

    private static void leftOut() {
        byte[] packed = Reference.plainPacked(new byte[2]);
        byte[] file = Files.of(1, 1, 3, 8, 0).piece("tEXt", Files.row(1, 2, 3)).piece("pLTE")
            .piece("PLTE", Files.row(1, 2, 3, 4, 5, 6)).piece("iDAT", Files.row(9))
            .piece("tRNS", Files.row(7, 8)).piece("zZzZ").piece("tEXt")
            .piece("IDAT", packed).piece("aaaa").piece("iEND").ended();
        PictureFile x = DUE.good("pieces that are left out", file);
        DUE.same("colours", x.about(5), 2);
        DUE.same("thin numbers", x.about(6), 2);
        for (int k = 0; k < 6; k++) {
            DUE.same("colour", x.ofColour(k / 3, k % 3), k + 1);
        }
        DUE.same("thin", x.ofThin(0), 7);
        DUE.same("thin", x.ofThin(1), 8);
        DUE.good("kind 6 with colours", Files.of(1, 1, 6, 8, 0).piece("PLTE", new byte[768])
            .piece("IDAT", Reference.plainPacked(new byte[5])).ended());
        x = DUE.good("kind 0 with a thin number", Files.of(1, 1, 0, 4, 0).piece("tRNS", Files.row(0, 15))
            .piece("IDAT", packed).ended());
        DUE.same("thin", x.ofThin(0), 15);
        x = DUE.good("kind 2 with colours and thin numbers", Files.of(1, 1, 2, 16, 0)
            .piece("PLTE", new byte[3]).piece("tRNS", Files.row(255, 255, 1, 2, 0, 3))
            .piece("IDAT", Reference.plainPacked(new byte[7])).ended());
        DUE.same("thin", x.ofThin(0), 65535);
        DUE.same("thin", x.ofThin(1), 258);
        DUE.same("thin", x.ofThin(2), 3);
        DUE.same("colours", x.about(5), 1);
    }

    /** A picture that is read is there in place of the old one, and nothing of that is left. */
    private static void oldPictureGoes() {
        PictureFile x = new PictureFile();
        x.make(64, 64, 3, 8, true);
        for (int k = 1; k < 256; k++) {
            x.colour(k, k, k);
            x.thin(k, 0, 0);
        }
        x.fill(0, 0, 64, 64, 0, 255);
        byte[] file = Files.of(2, 1, 0, 16, 0).piece("IDAT",
            Reference.plainPacked(Files.row(0, 1, 2, 3, 4))).ended();
        Files.load(x, file);
        DUE.same("read", x.read(), -1);
        int[] about = {2, 1, 0, 16, 0, 0, 0, 1, 5};
        for (int k = 0; k < about.length; k++) {
            DUE.same("about(" + k + ")", x.about(k), about[k]);
        }
        DUE.same("sample", x.sample(0, 0, 0), 258);
        DUE.same("sample", x.sample(1, 0, 0), 772);
        x.set(0, 0, 0, 9);
        x.spoil(41, 0);
        DUE.same("read with a fault", x.read(), file.length - 16);
        DUE.same("its fault", x.fault(), 5);
        DUE.same("the picture stays as it was", x.sample(0, 0, 0), 9);
        x.spoil(41, 120);
        DUE.same("read without a fault", x.read(), -1);
        DUE.same("it had none", x.fault(), 0);
        DUE.same("the picture is the file's", x.sample(0, 0, 0), 258);
        x.make(1, 1, 0, 1, false);
        DUE.same("fault() behind make()", x.fault(), 0);
        DUE.same("the tape is still there", x.read(), -1);
        DUE.same("sample", x.sample(1, 0, 0), 772);
    }

    private static byte[] grey(int width, byte[] packed) {
        return Files.of(width, 1, 0, 8, 0).piece("IDAT", packed).ended();
    }

    private static void blocksOfAllKinds() {
        int[] signs = new int[257];
        signs['x'] = 1;
        signs['y'] = 2;
        signs[256] = 2;
        Bits bits = Bits.packed().plain(0).block(0, 1).sign(256).plain(0, 0, 5);
        bits.block(0, 1).sign(200).sign(256).block(0, 2).fourBitLengths(257, 1).lengths(signs).lengths(0);
        bits.code("0").code("10").code("11").plain(0, 7).block(1, 1).sign(8).sign(256);
        PictureFile x = DUE.good("blocks of all kinds",
            grey(6, bits.sum(0, 5, 200, 'x', 'y', 7, 8).all()));
        int[] due = {5, 200, 'x', 'y', 7, 8};
        for (int k = 0; k < due.length; k++) {
            DUE.same("sample " + k, x.sample(k, 0, 0), due[k]);
        }
        x = DUE.good("a copy of a copy into itself", grey(9, copies()));
        int[] row = {1, 2, 1, 2, 1, 2, 1, 2, 1};
        for (int k = 0; k < row.length; k++) {
            DUE.same("copied " + k, x.sample(k, 0, 0), row[k]);
        }
    }

    private static byte[] copies() {
        Bits bits = Bits.packed().block(1, 1).sign(0).sign(1).sign(2);
        Reference.copy(bits, 7, 2);
        return bits.sign(256).sum(0, 1, 2, 1, 2, 1, 2, 1, 2, 1).all();
    }

    /** All lengths, and distances up to the largest one there can be, each told by two packers. */
    private static void everyLengthAndDistance() {
        for (int length = 3; length <= 258; length++) {
            int[] raw = new int[513];
            raw[1] = 1;
            Bits bits = Bits.packed().block(1, 1).sign(0).sign(1).sign(0);
            Reference.copy(bits, length, 1);
            // The longest length has a second code.
            if (length == 258) {
                bits = Bits.packed().block(1, 1).sign(0).sign(1).sign(0).sign(284).number(31, 5).code("00000");
            }
            for (int k = 3 + length; k < 513; k++) {
                bits.sign(k & 7);
                raw[k] = k & 7;
            }
            PictureFile x = DUE.good("length " + length, Files.of(64, 1, 6, 16, 0)
                .piece("IDAT", bits.sign(256).sum(raw).all()).ended());
            for (int k = 0; k < 256; k++) {
                DUE.same("length " + length, x.sample(k / 4, 0, k % 4), raw[2 * k + 1] << 8 | raw[2 * k + 2]);
            }
        }
        Reference like = new Reference(64, 64, 6, 16, true);
        int[] distances = {1, 2, 3, 4, 5, 6, 7, 8, 9, 12, 13, 16, 17, 24, 25, 32, 33, 48, 49, 64, 65, 96, 97, 128,
            129, 192, 193, 256, 257, 384, 385, 512, 513, 768, 769, 1024, 1025, 1536, 1537, 2048, 2049, 3072, 3073,
            4096, 4097, 6144, 6145, 8192, 8193, 12288, 12289, 16384, 16385, 24576, 24577, 32768};
        for (int distance : distances) {
            farCopy(like.bestRaw().length, distance);
        }
    }

    private static void farCopy(int total, int distance) {
        int[] raw = new int[total];
        for (int k = 1; k < 65; k++) {
            // A filter byte may become any of these.
            raw[k] = k % 5;
        }
        int at = Math.max(distance, 65);
        Bits bits = Bits.packed();
        int[] head = Arrays.copyOf(raw, at);
        bits.plain(0, head).block(0, 1);
        Reference.copy(bits, 3, distance);
        bits.sign(256);
        for (int k = 0; k < 3; k++) {
            raw[at + k] = raw[at + k - distance];
        }
        int[] tail = Arrays.copyOfRange(raw, at + 3, total);
        bits.plain(1, tail).sum(raw);
        PictureFile x = DUE.good("distance " + distance,
            Files.of(64, 64, 6, 16, 1).piece("IDAT", bits.all()).ended());
        DUE.same("its first sample", x.sample(0, 0, 0), 1 << 8 | 2);
    }

    private static void oneDistanceOrNone() {
        int[] signs = new int[258];
        signs[0] = 1;
        signs[256] = 2;
        signs[257] = 2;
        Bits none = Bits.packed().block(1, 2).fourBitLengths(258, 1).lengths(signs).lengths(0);
        DUE.good("no distance has a length", grey(1, none.code("0").code("0").code("10").sum(0, 0).all()));
        Bits one = Bits.packed().block(1, 2).fourBitLengths(258, 3).lengths(signs).lengths(0, 1, 0);
        one.code("0").code("0").code("11").code("0").code("10").sum(0, 0, 0, 0, 0);
        DUE.good("one distance has one", grey(4, one.all()));
    }

    /** Lengths told by repeats, which go over from signs to distances. */
    private static void repeatsGoOver() {
        Bits bits = Bits.packed().block(1, 2).allLengths(257, 4);
        bits.code(Bits.lengthCode(1));
        bits.code(Bits.lengthCode(18)).number(127, 7).code(Bits.lengthCode(18)).number(96, 7);
        bits.code(Bits.lengthCode(17)).number(7, 3);
        bits.code(Bits.lengthCode(2)).code(Bits.lengthCode(2)).code(Bits.lengthCode(16)).number(0, 2);
        // The signs 0 and 256 have the codes 0 and 10: 11 could be another one.
        int behind = bits.size();
        DUE.faulty("not full", grey(1, bits.code("0").code("0").code("10").sum(0, 0).all()), 24,
            41 + behind / 8);
        Bits full = Bits.packed().block(1, 2).allLengths(257, 4);
        full.code(Bits.lengthCode(1)).code(Bits.lengthCode(2));
        full.code(Bits.lengthCode(18)).number(127, 7).code(Bits.lengthCode(18)).number(105, 7);
        full.code(Bits.lengthCode(2)).code(Bits.lengthCode(16)).number(1, 2);
        // Signs 0, 1, 256: 0, 10, 11; distances 0 .. 3: 00, 01, 10, 11.
        full.code("0").code("10").code("10").code("0").code("11").sum(0, 1, 1, 0);
        PictureFile x = DUE.good("repeats", grey(3, full.all()));
        DUE.same("sample", x.sample(1, 0, 0), 1);
        DUE.same("sample", x.sample(2, 0, 0), 0);
    }

    /** Of a window of 256 the farthest byte is copied. */
    private static void smallWindow() {
        int[] raw = new int[2 * 193];
        Bits bits = new Bits().bytes(8, 29).block(1, 1);
        for (int k = 0; k < raw.length; k++) {
            // The two filter bytes are 0.
            raw[k] = k % 193 == 0 ? 0 : k < 256 ? k & 255 : raw[k - 256];
        }
        for (int k = 0; k < 256; k++) {
            bits.sign(raw[k]);
        }
        Reference.copy(bits, 130, 256);
        DUE.good("the window's last byte",
            Files.of(64, 2, 2, 8, 0).piece("IDAT", bits.sign(256).sum(raw).all()).ended());
    }
}
