import java.util.Arrays;
import java.util.zip.Adler32;
import java.util.zip.Deflater;

/** The sentences of section 3 on bits, blocks and what is behind them: the faults 20 to 23 and 26 to 29. */
public final class SectionBlocksTest {
    private static final Due DUE = new Due();
    private static final Packed PACKED = new Packed(DUE);

    public static void main(String[] args) {
        bitsOfAllPieces();
        firstBitOfWhatIsWrong();
        notThere();
        notThereAtTheCheck();
        firstByte();
        secondByte();
        firstBytesFromTheLeft();
        blocks();
        kindThree();
        restOfTheByte();
        howManyBytes();
        turnedRound();
        bytesAsTheyAre();
        moreThanRaw();
        moreThanRawByCopy();
        moreThanRawBehindTheCopysFaults();
        moreThanRawInKindZero();
        restBehindTheLastBlock();
        fewer();
        sum();
        sumModulo();
        bytesBehind();
        orderAtTheEnd();
        DUE.finish();
    }

    /** Some points whose signs have nine bits each, so that n of them move what follows by n bits. */
    private static Bits nines(Bits bits, int n) {
        for (int k = 0; k < n; k++) {
            bits.sign(200);
        }
        return bits;
    }

    /** The raw bytes of one row: a filter byte 0 and n points 200. */
    private static int[] row(int n, int... more) {
        int[] result = new int[1 + n + more.length];
        Arrays.fill(result, 1, 1 + n, 200);
        System.arraycopy(more, 0, result, 1 + n, more.length);
        return result;
    }

    private static void bitsOfAllPieces() {
        DUE.sentence("All bytes of the pieces IDAT are read as BITS, of each byte the lowest first");
        int[] raw = {0, 1, 2, 3, 200, 255, 7, 7, 7, 7};
        Bits bits = Bits.packed().block(1, 1);
        for (int k = 0; k < 7; k++) {
            bits.sign(raw[k]);
        }
        Reference.copy(bits, 3, 1);
        byte[] packed = bits.sign(256).sum(raw).all();
        for (int first = 0; first <= packed.length; first++) {
            for (int second = first; second <= packed.length; second++) {
                PictureFile x = DUE.good("cut at " + first + " and " + second, Packed.grey(9)
                    .piece("IDAT", Arrays.copyOf(packed, first))
                    .piece("IDAT", Arrays.copyOfRange(packed, first, second))
                    .piece("IDAT", Arrays.copyOfRange(packed, second, packed.length)).ended());
                DUE.same("samples", State.samples(x), "1 2 3 200 255 7 7 7 7 ");
            }
        }
        byte[] plain = Reference.plainPacked(Files.row(raw));
        for (int cut = 0; cut <= plain.length; cut++) {
            DUE.good("plain, cut at " + cut, Packed.grey(9).piece("IDAT", Arrays.copyOf(plain, cut)).piece("IDAT")
                .piece("IDAT", Arrays.copyOfRange(plain, cut, plain.length)).ended());
        }
        DUE.sentence("a number of n bits has its lowest first, a CODE of n bits its first one first");
        // The code 11000100 is that of the sign 284: 227, and 9 more by five bits.
        Bits copy = Bits.packed().block(1, 1).sign(0).sign(0).code("11000100").code("10010").code("00000").sign(256);
        DUE.good("9 as 10010", Files.of(6, 34, 0, 8, 0).piece("IDAT", copy.sum(new int[2 + 227 + 9]).all()).ended());
    }

    private static void firstBitOfWhatIsWrong() {
        DUE.sentence("faults are now at the byte with the first bit of what is wrong");
        for (int n = 0; n < 8; n++) {
            Bits bits = nines(Bits.packed().block(1, 1).sign(0), n);
            int at = bits.size();
            PACKED.faulty("sign 287 behind " + n, 60, bits.sign(287), 25, at);
            bits = nines(Bits.packed().block(1, 1).sign(0), n).sign(257);
            at = bits.size();
            PACKED.faulty("distance 31 behind " + n, 60, bits.code("11111"), 25, at);
            bits = nines(Bits.packed().block(0, 1).sign(0), n).sign(256).number(0, 1);
            at = bits.size();
            PACKED.faulty("kind 3 behind " + n, 60, bits.number(3, 2), 22, at);
        }
    }

    private static void notThere() {
        DUE.sentence("20 when bits or bytes are not there");
        PACKED.lacking("no byte", 1, new Bits());
        PACKED.lacking("one byte", 1, new Bits().bytes(120));
        PACKED.lacking("two bytes", 1, Bits.packed());
        for (int n = 0; n < 8; n++) {
            byte[] raw = Files.row(row(n, 5, 5, 5, 5, 5, 9, 9, 9, 9));
            byte[][] all = {nines(Bits.packed().block(1, 1).sign(0), n).sign(5).sign(257).number(0, 5).sign(5)
                    .sign(9).sign(9).sign(9).sign(9).sign(256).sum(row(n, 5, 5, 5, 5, 5, 9, 9, 9, 9)).all(),
                Reference.plainPacked(raw), Reference.deflated(raw, 9, Deflater.HUFFMAN_ONLY), twoBlocks(n)};
            for (byte[] packed : all) {
                DUE.good("all bytes", Packed.grey(n + 9).piece("IDAT", packed).ended());
                for (int have = 0; have < packed.length; have++) {
                    PACKED.faulty(have + " bytes", Packed.grey(n + 9), Arrays.copyOf(packed, have), 20, have);
                }
            }
        }
    }

    private static byte[] twoBlocks(int n) {
        int[] raw = row(n, 1, 2, 3, 4, 5, 6, 7, 8, 9);
        return nines(Bits.packed().block(0, 1).sign(0), n).sign(256).plain(0, 1, 2, 3).block(1, 1)
            .sign(4).sign(5).sign(6).sign(7).sign(8).sign(9).sign(256).sum(raw).all();
    }

    private static void notThereAtTheCheck() {
        DUE.sentence("20 .. at the check of the last piece IDAT");
        Files file = Packed.grey(1).piece("IDAT", Files.row(120)).piece("IDAT", Files.row(1)).piece("IDAT");
        int check = file.size() - 4;
        DUE.faulty("an empty piece is the last", file.ended(), 20, check);
        file = Packed.grey(1).piece("IDAT").piece("IDAT").piece("IDAT");
        check = file.size() - 4;
        DUE.faulty("all are empty", file.ended(), 20, check);
        file = Packed.grey(1).piece("IDAT", Files.row(120, 1));
        check = file.size() - 4;
        DUE.faulty("other pieces behind", file.piece("tEXt", new byte[5]).piece("aaaa").ended(), 20, check);
        // The places of an earlier, longer file are gone.
        PictureFile x = DUE.good("a longer one", Packed.grey(1).piece("IDAT", Reference.plainPacked(new byte[2])).ended());
        Files.load(x, Packed.grey(1).piece("IDAT", Files.row(120, 1, 1, 2)).ended());
        DUE.same("a shorter one behind it", x.read(), Packed.FIRST + 4);
        DUE.same("its fault", x.fault(), 20);
    }

    /** A second byte with which both are a multiple of 31, with the bit 32 or without it. */
    private static int second(int first, int bit) {
        for (int second = 0; second < 256; second++) {
            if ((256 * first + second) % 31 == 0 && (second & 32) == bit) {
                return second;
            }
        }
        return -1;
    }

    private static void firstByte() {
        DUE.sentence("21 at the first one, if its lower half is not 8 or its upper half w above 7");
        for (int first = 0; first < 256; first++) {
            Bits bits = new Bits().bytes(first, second(first, 0)).plain(1, 0, 0).sum(0, 0);
            if (first % 16 == 8 && first / 16 <= 7) {
                PACKED.good("first byte " + first, 1, bits);
            } else {
                PACKED.faulty("first byte " + first, 1, bits, 21, 0);
            }
        }
    }

    private static void secondByte() {
        DUE.sentence("21 .. at the second, if both as a number are no multiple of 31, or the second one has the bit 32");
        for (int w = 0; w < 8; w++) {
            int first = 16 * w + 8;
            int let = 0;
            for (int second = 0; second < 256; second++) {
                Bits bits = new Bits().bytes(first, second).plain(1, 0, 0).sum(0, 0);
                if ((256 * first + second) % 31 == 0 && (second & 32) == 0) {
                    PACKED.good("second byte " + second, 1, bits);
                    let++;
                } else {
                    PACKED.faulty("second byte " + second, 1, bits, 21, 8);
                }
            }
            DUE.that("some are let in", let > 2);
            DUE.that("some have the bit 32 and are a multiple", second(first, 32) >= 32);
        }
    }

    private static void firstBytesFromTheLeft() {
        DUE.sentence("21 at the first one .. at the second (the first one counts)");
        PACKED.faulty("both are wrong", 1, new Bits().bytes(7, 7), 21, 0);
        PACKED.faulty("the first alone, and wrong", 1, new Bits().bytes(136), 21, 0);
        PACKED.lacking("the first alone, and right", 1, new Bits().bytes(8));
        PACKED.faulty("21 before 22", 1, new Bits().bytes(120, 2, 7), 21, 8);
        PACKED.faulty("22 behind 21", 1, new Bits().bytes(120, 1, 7), 22, 17);
    }

    private static void blocks() {
        DUE.sentence("Then BLOCKS: a bit (whether it is the last one), two bits, its kind.");
        PACKED.good("many empty ones", 1, Bits.packed().plain(0).plain(0).block(0, 1).sign(256).block(0, 1).sign(256)
            .plain(0).plain(0, 0).plain(0).plain(0, 9).plain(0).block(1, 1).sign(256).sum(0, 9));
        PACKED.lacking("none is the last one", 1, Bits.packed().plain(0, 0, 9));
        // Behind the last block nothing is read as a block any more.
        PACKED.faulty("a block behind the last one", 1, Bits.packed().plain(1, 0, 9).plain(1).sum(0, 9), 28, 8 * 9);
        int[] signs = new int[257];
        signs[5] = 1;
        signs[200] = 2;
        signs[256] = 2;
        Bits bits = Bits.packed().block(0, 1).sign(0).sign(256).block(0, 2).fourBitLengths(257, 1).lengths(signs)
            .lengths(0).code("0").code("10").code("11").plain(0, 7).block(1, 1).sign(8).sign(256).sum(0, 5, 200, 7, 8);
        DUE.same("all kinds", State.samples(PACKED.good("all kinds", 4, bits)), "5 200 7 8 ");
        // The codes of a block of kind 2 are gone with it.
        signs[5] = 2;
        signs[200] = 1;
        bits = Bits.packed().plain(0, 0);
        for (int turn = 0; turn < 3; turn++) {
            signs[5] = 1 + turn % 2;
            signs[200] = 2 - turn % 2;
            bits.block(turn / 2, 2).fourBitLengths(257, 1).lengths(signs).lengths(0).code("0").code("11");
        }
        bits.sum(0, 5, 200, 5);
        DUE.same("codes of their own", State.samples(PACKED.good("codes of their own", 3, bits)), "5 200 5 ");
    }

    private static void kindThree() {
        DUE.sentence("Kind 3 is fault 22 at these two.");
        for (int last = 0; last < 2; last++) {
            PACKED.faulty("at once", 1, Bits.packed().block(last, 3), 22, 17);
            for (int n = 0; n < 8; n++) {
                Bits bits = nines(Bits.packed().block(0, 1).sign(0), n).sign(256);
                int at = bits.size() + 1;
                PACKED.faulty("behind " + n, 60, bits.block(last, 3), 22, at);
            }
        }
    }

    private static void restOfTheByte() {
        DUE.sentence("Kind 0: what is left of the byte is left out");
        for (int n = 0; n < 8; n++) {
            for (int rest = 0; rest < 2; rest++) {
                Bits bits = nines(Bits.packed().block(0, 1).sign(0), n).sign(256).block(1, 0);
                while (bits.size() % 8 != 0) {
                    bits.number(rest, 1);
                }
                bits.number(2, 16).number(~2, 16).bytes(3, 4).sum(row(n, 3, 4));
                PictureFile x = PACKED.good("behind " + n, n + 2, bits);
                DUE.same("the last point", x.sample(n + 1, 0, 0), 4);
            }
        }
    }

    private static void howManyBytes() {
        DUE.sentence("the first two are a number (the lower one first)");
        int[] raw = new int[259];
        raw[258] = 9;
        Bits bits = Bits.packed().block(1, 0).align().bytes(3, 1, 252, 254).bytes(raw).sum(raw);
        PictureFile x = DUE.good("259 bytes", Files.of(43, 1, 2, 16, 0).piece("IDAT", bits.all()).ended());
        DUE.same("raw bytes", x.about(8), 259);
        DUE.same("the last sample", x.sample(42, 0, 2), 9);
        PACKED.lacking("its others are not there", 1, Bits.packed().block(1, 0).bytes(3, 0));
    }

    private static void turnedRound() {
        DUE.sentence("the others all its bits turned round (else 23, at the first byte of these others)");
        for (int bit = 0; bit < 16; bit++) {
            Bits bits = Bits.packed().block(1, 0).align().number(2, 16).number(~2 ^ 1 << bit, 16).bytes(0, 0).sum(0, 0);
            PACKED.faulty("bit " + bit, 1, bits, 23, 8 * 5);
        }
        PACKED.faulty("the same", 1, Bits.packed().block(1, 0).align().number(2, 16).number(2, 16), 23, 8 * 5);
        PACKED.faulty("one less", 1, Bits.packed().block(1, 0).align().number(2, 16).number(-2, 16), 23, 8 * 5);
        PACKED.faulty("0 and 0", 1, Bits.packed().block(1, 0).align().number(0, 32), 23, 8 * 5);
        PACKED.faulty("65535 and 65535", 1, Bits.packed().block(1, 0).align().number(-1, 32), 23, 8 * 5);
        PACKED.faulty("23 before 26", 1, Bits.packed().plain(0, 0, 0).block(1, 0).align().number(1, 16).number(1, 16)
            .bytes(7), 23, 8 * 12);
        PACKED.lacking("half of the others", 1, Bits.packed().block(1, 0).align().number(2, 16).bytes(0));
        for (int n = 0; n < 8; n++) {
            Bits bits = nines(Bits.packed().block(0, 1).sign(0), n).sign(256).block(1, 0).align();
            int at = bits.size() + 16;
            PACKED.faulty("behind " + n, 60, bits.number(5, 16).number(5, 16), 23, at);
        }
    }

    private static void bytesAsTheyAre() {
        DUE.sentence("so many bytes follow, as they are");
        int[] raw = new int[257];
        for (int k = 0; k < 256; k++) {
            raw[k + 1] = k;
        }
        PictureFile x = DUE.good("all bytes", Files.of(64, 1, 6, 8, 0).piece("IDAT", Bits.packed().plain(1, raw)
            .sum(raw).all()).ended());
        for (int k = 0; k < 256; k++) {
            DUE.same("byte " + k, x.sample(k / 4, 0, k % 4), k);
        }
        PACKED.good("none, then all", 1, Bits.packed().plain(0).plain(1, 0, 5).sum(0, 5));
        PACKED.good("all, then none", 1, Bits.packed().plain(0, 0, 5).plain(1).sum(0, 5));
        PACKED.lacking("one is not there", 2, Bits.packed().block(1, 0).align().number(3, 16).number(~3, 16).bytes(0, 0));
        int[] largest = new int[32888];
        largest[32887] = 3;
        x = DUE.good("the largest picture", Files.of(64, 64, 6, 16, 1).piece("IDAT", Bits.packed().plain(1, largest)
            .sum(largest).all()).ended());
        DUE.same("its last sample", x.sample(63, 63, 3), 3);
    }

    private static void moreThanRaw() {
        DUE.sentence("26: at the code of the sign .. with which there are more bytes than raw ones");
        for (int n = 0; n < 8; n++) {
            Bits bits = nines(Bits.packed().block(1, 1).sign(0), n + 1);
            int at = bits.size();
            PACKED.faulty("one sign more behind " + n, n + 1, bits.sign(2).sign(256), 26, at);
            bits = nines(Bits.packed().block(1, 1).sign(0), n + 1);
            PACKED.faulty("a nine more behind " + n, n + 1, bits.sign(255).sign(256), 26, at);
            PACKED.good("just enough", n + 1, nines(Bits.packed().block(1, 1).sign(0), n + 1).sign(256).sum(row(n + 1)));
        }
        PACKED.faulty("in another block", 1, Bits.packed().plain(0, 0, 1).block(1, 1).sign(7), 26, 8 * 9 + 3);
        int[] largest = new int[32888];
        Bits bits = Bits.packed().plain(0, largest).block(1, 1);
        int at = bits.size();
        PACKED.faulty("the largest picture", Files.of(64, 64, 6, 16, 1), bits.sign(1).all(), 26, at / 8);
    }

    private static void moreThanRawByCopy() {
        DUE.sentence("26: at the code of the sign (of a copy)");
        for (int n = 1; n < 9; n++) {
            Bits bits = nines(Bits.packed().block(1, 1).sign(0), n);
            int at = bits.size();
            Reference.copy(bits, 3, 1);
            PACKED.faulty("two are to come, behind " + n, n + 2, bits.sign(256), 26, at);
            bits = nines(Bits.packed().block(1, 1).sign(0), n);
            Reference.copy(bits, 3, 1);
            PACKED.good("three are to come", n + 3, bits.sign(256).sum(row(n + 3)));
        }
        Bits bits = nines(Bits.packed().block(1, 1).sign(0), 1);
        Reference.copy(bits, 3, 1);
        int at = bits.size();
        Reference.copy(bits, 3, 1);
        PACKED.faulty("none is to come", 4, bits.sign(256), 26, at);
        int[] raw = new int[513];
        for (int have : new int[] {254, 255, 256}) {
            bits = Bits.packed().plain(0, Arrays.copyOf(raw, have)).block(0, 1);
            at = bits.size();
            Reference.copy(bits, 258, 1);
            if (have + 258 > 513) {
                PACKED.faulty("258 behind " + have, Files.of(64, 1, 6, 16, 0), bits.all(), 26, at / 8);
            } else {
                bits.sign(256).plain(1, Arrays.copyOf(raw, 513 - have - 258)).sum(raw);
                DUE.good("258 behind " + have, Files.of(64, 1, 6, 16, 0).piece("IDAT", bits.all()).ended());
            }
        }
    }

    private static void moreThanRawBehindTheCopysFaults() {
        DUE.sentence("26 .. (behind all faults of that copy)");
        Bits bits = Bits.packed().block(1, 1).sign(0).sign(200).sign(257);
        int at = bits.size();
        PACKED.faulty("distance 30", 1, bits.code("11110"), 25, at);
        bits = Bits.packed().block(1, 1).sign(0).sign(200).sign(257);
        PACKED.faulty("beyond the first byte", 1, bits.code("00010"), 25, at);
        PACKED.faulty("sign 286", 1, Bits.packed().block(1, 1).sign(0).sign(200).sign(286), 25, 16 + 3 + 8 + 9);
        for (int n = 1; n < 9; n++) {
            // Cut off at each byte behind the first one of the sign: its bits, or those of the distance, are missing.
            Bits whole = nines(Bits.packed().block(1, 1).sign(0), n);
            int sign = whole.size() / 8;
            whole.sign(284).number(0, 5).code("00010");
            byte[] all = whole.all();
            int end = (nines(Bits.packed().block(1, 1).sign(0), n).size() + 8 + 5 + 5 + 7) / 8;
            for (int have = sign + 1; have < end; have++) {
                PACKED.faulty("cut at " + have, Packed.grey(n), Arrays.copyOf(all, have), 20, have);
            }
        }
        int[] raw = new int[257 * 2];
        bits = new Bits().bytes(8, 29).plain(0, Arrays.copyOf(raw, 385)).block(1, 1).sign(257);
        at = bits.size();
        PACKED.faulty("beyond the window", Files.of(64, 1, 2, 16, 0), bits.code("10000").number(0, 7).all(), 25, at / 8);
        bits = new Bits().bytes(8, 29).plain(0, Arrays.copyOf(raw, 385)).block(1, 1);
        at = bits.size();
        bits.sign(257).code("01111").number(63, 6);
        PACKED.faulty("the window's last byte", Files.of(64, 1, 2, 16, 0), bits.all(), 26, at / 8);
    }

    private static void moreThanRawInKindZero() {
        DUE.sentence("26 .. (in blocks of kind 0: at the byte)");
        PACKED.faulty("one byte more", 1, Bits.packed().plain(1, 0, 1, 2), 26, 8 * 9);
        PACKED.faulty("many bytes more", 1, Bits.packed().plain(1, 0, 1, 2, 3, 4, 5), 26, 8 * 9);
        PACKED.faulty("in the next block", 1, Bits.packed().plain(0, 0, 1).plain(1, 2), 26, 8 * 14);
        PACKED.good("nothing in the next block", 1, Bits.packed().plain(0, 0, 1).plain(1).sum(0, 1));
        PACKED.lacking("the byte itself is not there", 1,
            Bits.packed().block(1, 0).align().number(3, 16).number(~3, 16).bytes(0, 0));
        PACKED.faulty("bytes behind it are not there", 1,
            Bits.packed().block(1, 0).align().number(65535, 16).number(0, 16).bytes(0, 0, 0), 26, 8 * 9);
    }

    private static void restBehindTheLastBlock() {
        DUE.sentence("Behind the last block the rest of the byte is left out");
        for (int n = 0; n < 8; n++) {
            for (int rest = 0; rest < 2; rest++) {
                Bits bits = nines(Bits.packed().block(1, 1).sign(0), n + 1).sign(256);
                while (bits.size() % 8 != 0) {
                    bits.number(rest, 1);
                }
                PACKED.good("behind " + n, n + 1, bits.sum(row(n + 1)));
            }
        }
    }

    private static void fewer() {
        DUE.sentence("27 at the byte behind, when there are fewer");
        for (int n = 0; n < 9; n++) {
            Bits bits = nines(Bits.packed().block(1, 1).sign(0), n).sign(256).align();
            int at = bits.size();
            PACKED.faulty("one is missing, behind " + n, n + 1, bits.sum(row(n)), 27, at);
        }
        PACKED.faulty("kind 0", 3, Bits.packed().plain(1, 0, 1, 2).sum(0, 1, 2), 27, 8 * 10);
        PACKED.faulty("none at all", 1, Bits.packed().block(1, 1).sign(256).bytes(0), 27, 8 * 4);
        PACKED.faulty("none at all, kind 0", 1, Bits.packed().plain(1).sum(), 27, 8 * 7);
        // The byte behind is not there: it would be where the check is.
        Bits bits = Bits.packed().block(1, 1).sign(256).align();
        PACKED.faulty("nothing behind", 1, bits, 27, bits.size());
        PACKED.faulty("27 before 28 and 29", 2, Bits.packed().plain(1, 0, 1).bytes(1, 2, 3, 4, 5, 6), 27, 8 * 9);
    }

    private static void sum() {
        DUE.sentence("Then a SUM of four bytes .. 65536 t + s, else 28 at its first byte");
        byte[] packed = Bits.packed().plain(1, 0, 1, 255).sum(0, 1, 255).all();
        DUE.good("the sum", Packed.grey(2).piece("IDAT", packed).ended());
        for (int bit = 0; bit < 32; bit++) {
            byte[] wrong = packed.clone();
            wrong[packed.length - 4 + bit / 8] ^= (byte) (1 << bit % 8);
            PACKED.faulty("bit " + bit, Packed.grey(2), wrong, 28, packed.length - 4);
        }
        // s is 1 at first, t is 0 at first, and t gets s behind the byte.
        PACKED.good("of two bytes 0", 1, Bits.packed().plain(1, 0, 0).bytes(0, 2, 0, 1));
        PACKED.good("of 0, 5", 1, Bits.packed().plain(1, 0, 5).bytes(0, 7, 0, 6));
        for (int n = 0; n < 8; n++) {
            Bits bits = nines(Bits.packed().block(1, 1).sign(0), n + 1).sign(256).align();
            int at = bits.size();
            PACKED.faulty("behind " + n, n + 1, bits.bytes(0, 0, 0, 0), 28, at);
        }
        for (int have = 0; have < 4; have++) {
            PACKED.lacking(have + " bytes of it", 1, Bits.packed().plain(1, 0, 0).bytes(new int[have]));
        }
    }

    private static void sumModulo() {
        DUE.sentence("with each byte s gets it more, then t gets s more (both modulo 65521)");
        // 1 and 256 bytes 255 are 65281: the next byte brings s to 65520, 65521, 65522.
        for (int next : new int[] {238, 239, 240, 241, 242, 255}) {
            int[] raw = new int[321];
            Arrays.fill(raw, 1, 257, 255);
            raw[257] = next;
            withAdler("s, " + next, raw);
        }
        int[] raw = bringsTToZero();
        DUE.that("t is brought to 65521", raw != null);
        withAdler("t", raw);
        raw = new int[64 * 385];
        for (int k = 0; k < raw.length; k++) {
            raw[k] = k % 385 == 0 ? 0 : 255;
        }
        DUE.good("far beyond it", Files.of(64, 64, 2, 16, 0).piece("IDAT", Bits.packed().plain(1, raw).sum(raw).all())
            .ended());
    }

    /** Bytes of one row with the last of which t is brought to just 65521. */
    private static int[] bringsTToZero() {
        for (int many = 1; many < 257; many++) {
            for (int other = 0; other < 256; other++) {
                int[] raw = new int[321];
                Arrays.fill(raw, 1, 1 + many, 255);
                raw[300] = other;
                Adler32 sum = new Adler32();
                sum.update(Files.row(raw));
                int missing = 65521 - (int) (sum.getValue() >> 16);
                if (missing < 256) {
                    raw[320] = missing;
                    return raw;
                }
            }
        }
        return null;
    }

    /** Raw bytes of one row, with the sum that another program makes of them. */
    private static void withAdler(String what, int[] raw) {
        Adler32 sum = new Adler32();
        sum.update(Files.row(raw));
        Bits bits = Bits.packed().plain(1, raw);
        for (int k = 24; k >= 0; k -= 8) {
            bits.bytes((int) (sum.getValue() >> k) & 255);
        }
        DUE.good(what, Files.of(40, 1, 6, 16, 0).piece("IDAT", bits.all()).ended());
    }

    private static void bytesBehind() {
        DUE.sentence("29 at a byte behind");
        Bits bits = Bits.packed().plain(1, 0, 1).sum(0, 1);
        int at = bits.size();
        PACKED.faulty("one byte", 1, bits.bytes(0), 29, at);
        PACKED.faulty("many bytes", 1, Bits.packed().plain(1, 0, 1).sum(0, 1).bytes(1, 2, 3, 4, 5), 29, at);
        Files file = Packed.grey(1).piece("IDAT", Bits.packed().plain(1, 0, 1).sum(0, 1).all()).piece("IDAT").piece("IDAT");
        int place = file.size() + 8;
        DUE.faulty("in another piece", file.piece("IDAT", Files.row(1, 2)).ended(), 29, place);
        file = Packed.grey(1).piece("IDAT", Bits.packed().plain(1, 0, 1).sum(0, 1).all());
        DUE.good("an empty piece behind", file.piece("IDAT").piece("IDAT").ended());
    }

    private static void orderAtTheEnd() {
        DUE.sentence("27 .. Then a SUM .. 28 .. 29 .. Then 30 .. 31");
        PACKED.faulty("28 before 29", 1, Bits.packed().plain(1, 0, 1).sum(0, 2).bytes(0), 28, 8 * 9);
        PACKED.faulty("28 before 30", 1, Bits.packed().plain(1, 9, 1).sum(0, 2), 28, 8 * 9);
        PACKED.faulty("29 before 30", 1, Bits.packed().plain(1, 9, 1).sum(9, 1).bytes(0), 29, 8 * 13);
        PACKED.lacking("20 before 30", 1, Bits.packed().plain(1, 9, 1).bytes(0));
        byte[] packed = Bits.packed().plain(1, 0, 1).sum(0, 1).bytes(7).all();
        PACKED.faulty("29 before 31", Files.of(1, 1, 3, 8, 0).piece("PLTE", new byte[3]), packed, 29, 13);
        packed = Bits.packed().plain(1, 0, 1).sum(0, 2).all();
        PACKED.faulty("28 before 31", Files.of(1, 1, 3, 8, 0).piece("PLTE", new byte[3]), packed, 28, 9);
    }
}
