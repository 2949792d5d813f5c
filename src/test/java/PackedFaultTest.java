import java.util.Arrays;
import java.util.Random;
import java.util.zip.DataFormatException;
import java.util.zip.Deflater;
import java.util.zip.Inflater;

/** Promises 4 and 5: the faults 20 to 31, of packed and raw bytes. */
public final class PackedFaultTest {
    private static final Due DUE = new Due();
    /** The place of the first packed byte, behind the header. */
    private static final int FIRST = 41;

    public static void main(String[] args) {
        tooFew();
        firstBytes();
        kindThree();
        plainBlocks();
        howMany();
        lengthCodes();
        repeats();
        codesNotFull();
        codesThatAreNone();
        distances();
        tooMany();
        fewer();
        sum();
        bytesBehind();
        filters();
        colours();
        placesInPieces();
        likeAnotherReader();
        DUE.finish();
    }

    /** Of so many points in one row, each of a byte. */
    private static byte[] grey(int width, byte[] packed) {
        return Files.of(width, 1, 0, 8, 0).piece("IDAT", packed).ended();
    }

    /** A fault at the byte with this bit of the packed bytes. */
    private static void faulty(String what, int width, Bits packed, int code, int bit) {
        DUE.faulty(what, grey(width, packed.all()), code, FIRST + bit / 8);
    }

    /** A fault 20, at the check. */
    private static void lacking(String what, int width, Bits packed) {
        byte[] bytes = packed.all();
        DUE.faulty(what, grey(width, bytes), 20, FIRST + bytes.length);
    }

    private static int[] signs(int count, int... signsAndLengths) {
        int[] result = new int[count];
        for (int k = 0; k < signsAndLengths.length; k += 2) {
            result[signsAndLengths[k]] = signsAndLengths[k + 1];
        }
        return result;
    }

    private static void tooFew() {
        DUE.faulty("no bytes", grey(1, new byte[0]), 20, FIRST);
        byte[] raw = new byte[61];
        for (int k = 1; k < raw.length; k++) {
            raw[k] = (byte) (k * k / 16);
        }
        byte[][] all = {Reference.plainPacked(raw), Reference.shortPacked(raw),
            Reference.deflated(raw, 9, 0), Reference.deflated(raw, 9, Deflater.HUFFMAN_ONLY)};
        for (byte[] packed : all) {
            DUE.good("all bytes", grey(60, packed));
            for (int n = 0; n < packed.length; n++) {
                DUE.faulty(n + " bytes", grey(60, Arrays.copyOf(packed, n)), 20, FIRST + n);
            }
        }
        Files file = Files.of(60, 1, 0, 8, 0).piece("IDAT", Arrays.copyOf(all[0], 9)).piece("IDAT");
        int check = file.size() - 4;
        DUE.faulty("the check of the last piece", file.piece("tEXt").ended(), 20, check);
    }

    private static void firstBytes() {
        for (int first = 0; first < 256; first++) {
            int second = 31 - (first << 8) % 31;
            int with32 = second | 32;
            while ((first << 8 | with32) % 31 != 0 || (with32 & 32) == 0) {
                with32++;
            }
            boolean good = first % 16 == 8 && first / 16 < 8;
            Bits rest = new Bits().bytes(first, second).plain(1, 0, 0).sum(0, 0);
            if (good) {
                DUE.good("first byte " + first, grey(1, rest.all()));
                DUE.faulty("the bit 32", grey(1, Files.row(first, with32, 3)), 21, FIRST + 1);
                DUE.faulty("no multiple", grey(1, Files.row(first, second + 1, 3)), 21, FIRST + 1);
            } else {
                DUE.faulty("first byte " + first, grey(1, rest.all()), 21, FIRST);
                DUE.faulty("first byte " + first + " alone", grey(1, Files.row(first)), 21, FIRST);
                DUE.faulty("both are wrong", grey(1, Files.row(first, second + 1)), 21, FIRST);
            }
        }
    }

    private static void kindThree() {
        faulty("at once", 1, Bits.packed().block(1, 3), 22, 17);
        faulty("not the last one", 1, Bits.packed().block(0, 3), 22, 17);
        Bits bits = Bits.packed().block(0, 1);
        for (int k = 0; k < 5; k++) {
            bits.sign(200);
        }
        bits.sign(256);
        DUE.same("the next bit is the last one of a byte", bits.size() % 8, 7);
        int at = bits.size() + 1;
        faulty("its bits are in the next byte", 9, bits.block(1, 3), 22, at);
        bits = Bits.packed().block(0, 1);
        for (int k = 0; k < 4; k++) {
            bits.sign(200);
        }
        bits.sign(256);
        at = bits.size() + 1;
        faulty("its bits are in two bytes", 9, bits.block(1, 3), 22, at);
    }

    private static void plainBlocks() {
        int[] wrong = {0, 2, 0xFFFE, 0x7FFD, 0xFFFC, 0xFEFD};
        for (int turned : wrong) {
            Bits bits = Bits.packed().block(1, 0).align().number(2, 16).number(turned, 16).bytes(0, 0).sum(0, 0);
            faulty("turned " + turned, 1, bits, 23, 5 * 8);
        }
        lacking("half of the others", 1, Bits.packed().block(1, 0).align().number(2, 16).bytes(0));
        faulty("all of the others", 1, Bits.packed().block(1, 0).align().number(2, 16).bytes(0, 0), 23, 5 * 8);
        // What is left of a byte is left out, whatever it is.
        Bits left = Bits.packed().block(1, 0).number(31, 5).number(2, 16).number(~2, 16).bytes(0, 0).sum(0, 0);
        DUE.good("what is left of the byte", grey(1, left.all()));
    }

    private static void howMany() {
        int signsAt = Bits.packed().block(1, 2).size();
        for (int n = 30; n < 32; n++) {
            faulty("signs: " + (257 + n), 1, Bits.packed().block(1, 2).number(n, 5), 24, signsAt);
            faulty("both: " + (257 + n), 1, Bits.packed().block(1, 2).number(n, 5).number(31, 5), 24, signsAt);
            faulty("distances: " + (n + 1), 1, Bits.packed().block(1, 2).number(29, 5).number(n, 5), 24, signsAt + 5);
        }
        lacking("286 signs, 30 distances", 1, Bits.packed().block(1, 2).number(29, 5).number(29, 5));
        // As soon as it is read: the bits of the second one need not be there.
        Bits early = Bits.packed();
        for (int k = 0; k < 4; k++) {
            early.block(0, 1).sign(256);
        }
        DUE.same("they end with a byte", early.size() % 8, 0);
        int at = early.size();
        faulty("signs and nothing behind", 1, early.block(1, 2).number(31, 5), 24, at + 3);
        int[] lengths = signs(286 + 30, 0, 1, 256, 2, 285, 2);
        Bits most = Bits.packed().block(1, 2).fourBitLengths(286, 30).lengths(lengths);
        DUE.good("286 signs and 30 distances", grey(1, most.code("0").code("0").code("10").sum(0, 0).all()));
    }

    private static void lengthCodes() {
        int at = Bits.packed().block(1, 2).size() + 14;
        int[][] none = {{0, 0, 0, 0}, {1, 0, 0, 0}, {1, 1, 1, 0}, {1, 2, 0, 0}, {2, 2, 2, 0}, {7, 7, 7, 7}, {1, 1, 0, 7}};
        for (int[] lengths : none) {
            Bits bits = Bits.packed().block(1, 2).number(0, 5).number(0, 5).number(0, 4);
            for (int length : lengths) {
                bits.number(length, 3);
            }
            faulty("length codes " + Arrays.toString(lengths), 1, bits.bytes(0, 0), 24, at);
        }
        // They are full, but 16 is the first one.
        Bits bits = Bits.packed().block(1, 2).number(0, 5).number(0, 5).number(0, 4);
        bits.number(1, 3).number(2, 3).number(2, 3).number(0, 3);
        int code = bits.size();
        faulty("full length codes", 1, bits.code("0").number(0, 2), 24, code);
        bits = Bits.packed().block(1, 2).number(0, 5).number(0, 5).number(0, 4).number(7, 3).number(7, 3);
        lacking("not all of them there", 1, bits);
    }

    private static void repeats() {
        Bits bits = Bits.packed().block(1, 2).allLengths(257, 1);
        int at = bits.size();
        faulty("no length before", 1, bits.code(Bits.lengthCode(16)).number(3, 2), 24, at);
        bits = Bits.packed().block(1, 2).allLengths(257, 1);
        bits.code(Bits.lengthCode(18)).number(127, 7).code(Bits.lengthCode(17)).number(5, 3);
        at = bits.size();
        faulty("18: 138 and 8 and 113 are 259", 1, bits.code(Bits.lengthCode(18)).number(102, 7), 24, at);
        bits = Bits.packed().block(1, 2).allLengths(257, 1);
        bits.code(Bits.lengthCode(18)).number(127, 7).code(Bits.lengthCode(18)).number(107, 7).code(Bits.lengthCode(1));
        bits.code(Bits.lengthCode(0));
        faulty("all of them there, not full", 1, bits, 24, bits.size());
        bits = Bits.packed().block(1, 2).allLengths(257, 1);
        bits.code(Bits.lengthCode(18)).number(127, 7).code(Bits.lengthCode(18)).number(107, 7);
        at = bits.size();
        faulty("17: 3 where 2 are to come", 1, bits.code(Bits.lengthCode(17)).number(0, 3), 24, at);
        bits = Bits.packed().block(1, 2).allLengths(257, 1);
        bits.code(Bits.lengthCode(18)).number(127, 7).code(Bits.lengthCode(18)).number(107, 7);
        at = bits.size();
        faulty("16: 3 where 2 are to come", 1, bits.code(Bits.lengthCode(16)).number(0, 2), 24, at);
        behindTheirBits();
    }

    /** A repeat that is wrong is so behind its bits: where these are not there, that counts. */
    private static void behindTheirBits() {
        for (int zeros = 0; zeros < 8; zeros++) {
            Bits bits = Bits.packed().block(1, 2).allLengths(257, 1);
            for (int k = 0; k < zeros; k++) {
                bits.code(Bits.lengthCode(13));
            }
            // All is filled by zeros but the two last ones.
            int left = 256 - zeros - 138;
            bits.code(Bits.lengthCode(18)).number(127, 7).code(Bits.lengthCode(18)).number(left - 11, 7);
            if ((bits.size() + 5) % 8 == 0) {
                lacking("18 without its bits", 1, bits.code(Bits.lengthCode(18)));
                return;
            }
        }
        DUE.that("one of them ends with a byte", false);
    }

    private static void codesNotFull() {
        int[][] wrongSigns = {signs(257, 256, 1), signs(257, 0, 1, 1, 1), signs(257, 0, 1, 1, 1, 256, 1),
            signs(257, 0, 1, 256, 2), signs(257, 0, 2, 1, 2, 2, 2, 256, 3), signs(257),
            signs(257, 0, 15, 256, 15), signs(257, 0, 1, 1, 2, 2, 2)};
        for (int[] lengths : wrongSigns) {
            Bits bits = Bits.packed().block(1, 2).fourBitLengths(257, 1).lengths(lengths).lengths(0);
            int at = bits.size();
            faulty("signs", 1, bits.bytes(0, 0, 0), 24, at);
        }
        int[][] wrongDistances = {{2}, {0, 15}, {1, 2}, {1, 1, 1}, {2, 2, 2}, {2, 2, 2, 2, 1}, {1, 3, 3}};
        for (int[] lengths : wrongDistances) {
            Bits bits = Bits.packed().block(1, 2).fourBitLengths(257, lengths.length);
            bits.lengths(signs(257, 0, 1, 256, 1)).lengths(lengths);
            int at = bits.size();
            faulty("distances " + Arrays.toString(lengths), 1, bits.bytes(0, 0, 0), 24, at);
        }
        int[][] good = {{0}, {1}, {0, 0, 1}, {1, 1}, {2, 2, 2, 2}, {1, 2, 2}, {0, 1, 0, 1}};
        for (int[] lengths : good) {
            Bits bits = Bits.packed().block(1, 2).fourBitLengths(257, lengths.length);
            bits.lengths(signs(257, 0, 1, 256, 1)).lengths(lengths).code("001").sum(0, 0);
            DUE.good("distances " + Arrays.toString(lengths), grey(1, bits.all()));
        }
        int[] longest = new int[257];
        for (int k = 0; k < 15; k++) {
            longest[k] = k + 1;
        }
        longest[256] = 15;
        Bits bits = Bits.packed().block(1, 2).fourBitLengths(257, 1).lengths(longest).lengths(0);
        bits.code("0").code("111111111111110").code("111111111111111").sum(0, 14);
        PictureFile x = DUE.good("codes of 15 bits", grey(1, bits.all()));
        DUE.same("its sample", x.sample(0, 0, 0), 14);
    }

    private static void codesThatAreNone() {
        for (int sign = 286; sign < 288; sign++) {
            Bits bits = Bits.packed().block(1, 1).sign(0).sign(200);
            int at = bits.size();
            faulty("sign " + sign, 9, bits.sign(sign), 25, at);
        }
        for (int distance = 30; distance < 32; distance++) {
            Bits bits = Bits.packed().block(1, 1).sign(0).sign(257);
            int at = bits.size();
            faulty("distance " + distance, 9, bits.code(Bits.binary(distance, 5)), 25, at);
        }
        int[] lengths = signs(258, 0, 1, 256, 2, 257, 2);
        Bits bits = Bits.packed().block(1, 2).fourBitLengths(258, 1).lengths(lengths).lengths(0).code("0").code("11");
        int at = bits.size();
        faulty("there is no distance", 9, bits.number(0, 9), 25, at);
        bits = Bits.packed().block(1, 2).fourBitLengths(258, 1).lengths(lengths).lengths(1).code("0").code("11");
        at = bits.size();
        faulty("not the one distance", 9, bits.code("1").number(0, 9), 25, at);
        oneBitIsRead(lengths);
    }

    /** A code is read as long as one can be: where one bit says that it is none, no other is wanted. */
    private static void oneBitIsRead(int[] lengths) {
        for (int zeros = 1; zeros < 9; zeros++) {
            Bits bits = Bits.packed().block(1, 2).fourBitLengths(258, 1).lengths(lengths).lengths(1);
            for (int k = 0; k < zeros; k++) {
                bits.code("0");
            }
            bits.code("11");
            int at = bits.size();
            if (at % 8 == 7) {
                faulty("one bit", 63, bits.code("1"), 25, at);
            }
            if (at % 8 == 0) {
                lacking("no bit", 63, bits);
            }
        }
    }

    private static void distances() {
        for (int distance = 2; distance < 40; distance++) {
            Bits bits = Bits.packed().block(1, 1).sign(0).sign(200).code(Bits.fixedCode(268)).number(1, 1);
            int at = bits.size();
            int code = 0;
            int begin = 1;
            while (begin + (1 << Math.max(0, code / 2 - 1)) <= distance) {
                begin += 1 << Math.max(0, code / 2 - 1);
                code++;
            }
            bits.code(Bits.binary(code, 5)).number(distance - begin, Math.max(0, code / 2 - 1));
            if (distance > 2) {
                faulty("beyond the first byte: " + distance, 60, bits, 25, at);
            } else {
                int[] raw = new int[20];
                for (int k = 1; k < 20; k += 2) {
                    raw[k] = 200;
                }
                DUE.good("the first byte itself", grey(19, bits.sign(256).sum(raw).all()));
            }
        }
        windows();
    }

    /** A copy from the window's last byte, and from the one behind it. */
    private static void windows() {
        for (int w = 0; w < 5; w++) {
            int window = 256 << w;
            int first = 16 * w + 8;
            Bits head = new Bits().bytes(first, 31 - (first << 8) % 31);
            int[] raw = new int[64 * 385];
            head.plain(0, Arrays.copyOf(raw, window + 1)).block(0, 1);
            int at = head.size() + 7;
            Reference.copy(head, 3, window + 1);
            byte[] file = Files.of(64, 64, 2, 16, 0).piece("IDAT", head.all()).ended();
            DUE.faulty("beyond the window " + window, file, 25, FIRST + at / 8);
            Bits good = new Bits().bytes(first, 31 - (first << 8) % 31);
            good.plain(0, Arrays.copyOf(raw, window + 1)).block(0, 1);
            Reference.copy(good, 3, window);
            good.sign(256).plain(1, Arrays.copyOf(raw, raw.length - window - 4)).sum(raw);
            DUE.good("the window " + window, Files.of(64, 64, 2, 16, 0).piece("IDAT", good.all()).ended());
        }
    }

    private static void tooMany() {
        Bits bits = Bits.packed().block(1, 1).sign(0).sign(1);
        int at = bits.size();
        faulty("one sign more", 1, bits.sign(2).sign(256), 26, at);
        bits = Bits.packed().block(1, 1).sign(0).sign(200);
        at = bits.size();
        Reference.copy(bits, 3, 1);
        faulty("a copy that is too long", 3, bits.sign(256), 26, at);
        bits = Bits.packed().block(1, 1).sign(0).sign(200).sign(257);
        at = bits.size();
        faulty("behind all faults of that copy: none", 1, bits.code("11110"), 25, at);
        bits = Bits.packed().block(1, 1).sign(0).sign(200).sign(257);
        at = bits.size();
        faulty("behind all faults of that copy: too far", 1, bits.code("00010"), 25, at);
        bits = Bits.packed().block(1, 1).sign(0).sign(200).code(Bits.fixedCode(284));
        lacking("behind all faults of that copy: its bits", 1, bits);
        bits = Bits.packed().block(1, 1).sign(0).sign(200).sign(286);
        faulty("sign 286", 1, bits, 25, 16 + 3 + 8 + 9);
        faulty("plain", 1, Bits.packed().plain(1, 0, 1, 2, 3), 26, 8 * 9);
        faulty("two plain blocks", 1, Bits.packed().plain(0, 0, 1).plain(1, 2), 26, 8 * 14);
        lacking("the byte that is too much is not there", 1,
            Bits.packed().block(1, 0).align().number(3, 16).number(~3, 16).bytes(0, 0));
        DUE.good("just enough", grey(1, Bits.packed().plain(0, 0, 1).plain(1).sum(0, 1).all()));
    }

    private static void fewer() {
        faulty("plain", 3, Bits.packed().plain(1, 0, 1, 2).sum(0, 1, 2), 27, 8 * 10);
        Bits bits = Bits.packed().block(1, 1).sign(0).sign(256);
        faulty("kind 1", 1, bits.align().bytes(9, 9, 9, 9), 27, 8 * 5);
        bits = Bits.packed().block(1, 1).sign(256);
        faulty("none at all", 1, bits.bytes(0), 27, 8 * 4);
        // The byte behind is not there: it would be at the check.
        byte[] packed = Bits.packed().block(1, 1).sign(256).all();
        DUE.faulty("nothing behind", grey(1, packed), 27, FIRST + packed.length);
    }

    private static void sum() {
        byte[] packed = Bits.packed().plain(1, 0, 1, 255).sum(0, 1, 255).all();
        DUE.good("the sum", grey(2, packed));
        for (int k = packed.length - 4; k < packed.length; k++) {
            byte[] wrong = packed.clone();
            wrong[k] ^= 128;
            DUE.faulty("byte " + k, grey(2, wrong), 28, FIRST + packed.length - 4);
        }
        int[] raw = new int[64 * 385];
        for (int k = 0; k < raw.length; k++) {
            raw[k] = k % 385 == 0 ? 0 : 255;
        }
        DUE.good("a sum beyond the modulus", Files.of(64, 64, 2, 16, 0)
            .piece("IDAT", Bits.packed().plain(1, raw).sum(raw).all()).ended());
    }

    private static void bytesBehind() {
        Bits bits = Bits.packed().plain(1, 0, 1).sum(0, 1);
        int at = bits.size();
        faulty("a byte behind", 1, bits.bytes(0), 29, at);
        Files file = Files.of(1, 1, 0, 8, 0).piece("IDAT", Bits.packed().plain(1, 0, 1).sum(0, 1).all()).piece("IDAT");
        int place = file.size() + 8;
        DUE.faulty("in another piece", file.piece("IDAT", Files.row(1, 2)).ended(), 29, place);
        bits = Bits.packed().plain(1, 0, 1).sum(0, 2);
        faulty("the sum first", 1, bits.bytes(0), 28, at - 32);
        bits = Bits.packed().plain(1, 9, 1).sum(9, 1);
        faulty("before the filters", 1, bits.bytes(0), 29, at);
    }

    private static void filters() {
        for (int filter = 0; filter < 256; filter++) {
            byte[] raw = Files.row(4, 1, filter, 1, 200, 1);
            byte[] file = Files.of(1, 3, 0, 8, 0).piece("IDAT", Reference.plainPacked(raw)).ended();
            DUE.faulty("filter " + filter, file, 30, filter > 4 ? 2 : 4);
        }
        DUE.faulty("the first filter", Files.of(1, 2, 0, 8, 0)
            .piece("IDAT", Reference.plainPacked(Files.row(5, 1, 5, 1))).ended(), 30, 0);
        byte[] laced = new byte[2 * 2 + 3];
        laced[4] = 5;
        DUE.faulty("laced", Files.of(2, 2, 0, 8, 1).piece("IDAT", Reference.plainPacked(laced)).ended(), 30, 4);
    }

    private static void colours() {
        byte[] raw = {0, 0b00011011, 0, 0b01000000};
        byte[] packed = Reference.plainPacked(raw);
        int[] due = {1, 2, 3};
        for (int n = 1; n < 4; n++) {
            DUE.faulty(n + " colours", Files.of(4, 2, 3, 2, 0).piece("PLTE", new byte[3 * n])
                .piece("IDAT", packed).ended(), 31, due[n - 1]);
        }
        DUE.good("all colours", Files.of(4, 2, 3, 2, 0).piece("PLTE", new byte[12]).piece("IDAT", packed).ended());
        DUE.faulty("in the second row", Files.of(4, 2, 3, 2, 0).piece("PLTE", new byte[3])
            .piece("IDAT", Reference.plainPacked(new byte[] {0, 0, 0, 0b00000100})).ended(), 31, 6);
        // Pass 1 has point (0, 0), 6 has (1, 0), 7 has (0, 1) and (1, 1); of points the first one counts.
        DUE.faulty("laced", Files.of(2, 2, 3, 8, 1).piece("PLTE", new byte[6])
            .piece("IDAT", Reference.plainPacked(new byte[] {0, 1, 0, 1, 0, 9, 9})).ended(), 31, 2);
        Reference like = new Reference(5, 5, 3, 8, true);
        like.set(4, 0, 0, 7);
        like.set(1, 0, 0, 7);
        DUE.faulty("a point of a later pass", Files.of(5, 5, 3, 8, 1).piece("PLTE", new byte[21])
            .piece("IDAT", Reference.plainPacked(like.raw(0))).ended(), 31, 1);
        DUE.faulty("filters first", Files.of(2, 2, 3, 8, 0).piece("PLTE", new byte[6])
            .piece("IDAT", Reference.plainPacked(new byte[] {0, 9, 9, 5, 0, 0})).ended(), 30, 3);
        DUE.faulty("the first point", Files.of(2, 1, 3, 8, 0).piece("PLTE", new byte[6])
            .piece("IDAT", Reference.plainPacked(new byte[] {0, 2, 2})).ended(), 31, 0);
        coloursOfAnEarlierPicture();
        // What is left of a byte is no point.
        DUE.good("left bits", Files.of(3, 1, 3, 2, 0).piece("PLTE", new byte[3])
            .piece("IDAT", Reference.plainPacked(new byte[] {0, 3})).ended());
    }

    /** Points beyond a picture's last one are none, whatever an earlier picture had there. */
    private static void coloursOfAnEarlierPicture() {
        PictureFile x = new PictureFile();
        byte[] large = Files.of(3, 1, 3, 8, 0).piece("PLTE", new byte[768])
            .piece("IDAT", Reference.plainPacked(Files.row(0, 255, 255, 255))).ended();
        byte[] small = Files.of(2, 1, 3, 8, 0).piece("PLTE", new byte[3])
            .piece("IDAT", Reference.plainPacked(new byte[3])).ended();
        for (byte[] file : new byte[][] {large, large, small, small}) {
            Files.load(x, file);
            DUE.same("an earlier picture", x.read(), PictureFile.NONE);
        }
    }

    /** Packed bytes in many pieces: a fault's place is on the tape. */
    private static void placesInPieces() {
        Bits bits = Bits.packed().block(1, 1).sign(0).sign(200);
        int at = bits.size() / 8;
        byte[] packed = bits.sign(287).all();
        Files file = Files.of(9, 1, 0, 8, 0);
        int place = 0;
        for (int k = 0; k < packed.length; k++) {
            file.piece("IDAT");
            place = k == at ? file.size() + 8 : place;
            file.piece("IDAT", packed[k]);
        }
        DUE.faulty("a piece for each byte", file.ended(), 25, place);
    }

    /** Files with one wrong bit or byte: those that are let in are those that another reader lets in. */
    private static void likeAnotherReader() {
        Random random = new Random(99);
        int let = 0;
        for (int turn = 0; turn < 20000; turn++) {
            byte[] raw = new byte[41];
            for (int k = 1; k < raw.length; k++) {
                raw[k] = (byte) (random.nextInt(4) == 0 ? random.nextInt(256) : k & 3);
            }
            byte[] packed = turn % 3 == 0 ? Reference.shortPacked(raw)
                : Reference.deflated(raw, 9, turn % 3 == 1 ? 0 : Deflater.HUFFMAN_ONLY);
            int bit = 16 + random.nextInt(8 * packed.length - 48);
            packed[bit / 8] ^= (byte) (1 << bit % 8);
            byte[] got = inflated(packed, raw.length);
            PictureFile x = new PictureFile();
            Files.load(x, grey(40, withSum(packed, got)));
            x.read();
            boolean good = x.fault() == 0 || x.fault() == 30;
            DUE.same("bit " + bit + " of turn " + turn + ", fault " + x.fault(), good ? 1 : 0, got != null ? 1 : 0);
            let += good ? 1 : 0;
        }
        DUE.that("some are let in", let > 1000);
        DUE.that("most are not", let < 19000);
    }

    /** What another reader makes of it, sum left aside; null: not just so many bytes. */
    private static byte[] inflated(byte[] packed, int n) {
        Inflater inflater = new Inflater(true);
        inflater.setInput(packed, 2, packed.length - 6);
        byte[] result = new byte[n + 300];
        try {
            int had = inflater.inflate(result);
            boolean all = inflater.finished() && had == n && inflater.getRemaining() == 0;
            return all ? Arrays.copyOf(result, n) : null;
        } catch (DataFormatException e) {
            return null;
        } finally {
            inflater.end();
        }
    }

    private static byte[] withSum(byte[] packed, byte[] raw) {
        byte[] result = packed.clone();
        if (raw != null) {
            java.util.zip.Adler32 sum = new java.util.zip.Adler32();
            sum.update(raw);
            for (int k = 0; k < 4; k++) {
                result[packed.length - 4 + k] = (byte) (sum.getValue() >> (24 - 8 * k));
            }
        }
        return result;
    }
}
