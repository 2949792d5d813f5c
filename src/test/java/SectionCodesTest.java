import java.util.Arrays;
import java.util.Random;
import java.util.zip.DataFormatException;
import java.util.zip.Deflater;
import java.util.zip.Inflater;

/** The sentences of section 3 on codes, lengths and copies: the faults 24 and 25. */
public final class SectionCodesTest {
    private static final Due DUE = new Due();
    private static final Packed PACKED = new Packed(DUE);

    public static void main(String[] args) {
        signsOfKindOne();
        tooManySigns();
        tooManyDistances();
        lengthCodesInOrder();
        itself();
        repeatOfNone();
        repeatOfTheLengthBefore();
        repeatsOfZero();
        moreThanAreToCome();
        behindTheirBits();
        readBitByBit();
        codesByLengths();
        lengthCodesFull();
        signsFull();
        endHasALength();
        distancesFull();
        placesOfCodesNotFull();
        lengthsOfCopies();
        distancesOfCopies();
        bytesOfCopies();
        codeThatIsNone();
        signsBeyond();
        distancesBeyond();
        beyondTheFirstByte();
        beyondTheWindow();
        orderInACopy();
        cutOff();
        likeAnotherReader();
        DUE.finish();
    }

    /** Lengths of so many signs: pairs of a sign and its length, 0 for all others. */
    private static int[] signs(int count, int... signsAndLengths) {
        int[] result = new int[count];
        for (int k = 0; k < signsAndLengths.length; k += 2) {
            result[signsAndLengths[k]] = signsAndLengths[k + 1];
        }
        return result;
    }

    /** A last block of kind 2, up to its codes, with any lengths. */
    private static Bits block(int[] signs, int... distances) {
        return Bits.packed().block(1, 2).fourBitLengths(signs.length, distances.length).lengths(signs).lengths(distances);
    }

    /** A last block of kind 2 with codes for all lengths and repeats. */
    private static Bits allLengths(int signs, int distances) {
        return Bits.packed().block(1, 2).allLengths(signs, distances);
    }

    /** A block before it, with n signs of nine bits, so that what follows is moved by n bits. */
    private static Bits moved(int n) {
        Bits bits = Bits.packed().block(0, 1).sign(0);
        for (int k = 0; k < n; k++) {
            bits.sign(200);
        }
        return bits.sign(256);
    }

    /** How many signs of nine bits bring what follows to the beginning of a byte. */
    private static int toAByte(int bits) {
        return Math.floorMod(-moved(0).size() - bits, 8);
    }

    private static void zeros(Bits bits, int n) {
        int left = n;
        while (left >= 11) {
            int many = Math.min(138, left);
            bits.code(Bits.lengthCode(18)).number(many - 11, 7);
            left -= many;
        }
        for (int k = 0; k < left; k++) {
            bits.code(Bits.lengthCode(0));
        }
    }

    private static void signsOfKindOne() {
        DUE.sentence("Kind 1: SIGNS 0 .. 287 have codes of 8 bits (0 .. 143), 9 (to 255), 7 (to 279), 8 (to 287)");
        String[] codes = {"00110000", "10111111", "110010000", "111111111"};
        int[] values = {0, 143, 144, 255};
        for (int k = 0; k < 4; k++) {
            PictureFile x = PACKED.good("sign " + values[k], 1, Bits.packed().block(1, 1).code("00110000").code(codes[k])
                .code("0000000").sum(0, values[k]));
            DUE.same("its byte", x.sample(0, 0, 0), values[k]);
        }
        int[] raw = new int[257];
        Bits all = Bits.packed().block(1, 1).sign(0);
        for (int k = 0; k < 256; k++) {
            raw[k + 1] = k;
            all.sign(k);
        }
        PictureFile x = DUE.good("all bytes", Files.of(64, 1, 6, 8, 0).piece("IDAT", all.sign(256).sum(raw).all()).ended());
        for (int k = 0; k < 256; k++) {
            DUE.same("byte " + k, x.sample(k / 4, 0, k % 4), k);
        }
        // 275 is 0010011, for 51 .. 58; 280 is 11000000, for 115 .. 130.
        PACKED.good("sign 275", 59, Bits.packed().block(1, 1).sign(0).sign(0).code("0010011").number(7, 3).code("00000")
            .sign(256).sum(new int[60]));
        DUE.good("sign 280", Files.of(39, 3, 0, 8, 0).piece("IDAT", Bits.packed().block(1, 1).sign(0).sign(0)
            .code("11000000").number(3, 4).code("00000").sign(256).sum(new int[120]).all()).ended());
        DUE.sentence("DISTANCES 0 .. 31 of 5 bits");
        for (int code = 0; code < 4; code++) {
            x = PACKED.good("distance " + code, 7, Bits.packed().block(1, 1).sign(0).sign(4).sign(3).sign(2).sign(1)
                .sign(257).code(Bits.binary(code, 5)).sign(256).sum(raw(code + 1)));
            DUE.same("the first copied", x.sample(4, 0, 0), code + 1);
        }
    }

    /** 0, 4, 3, 2, 1 and three bytes copied from a distance. */
    private static int[] raw(int distance) {
        int[] result = {0, 4, 3, 2, 1, 0, 0, 0};
        for (int k = 5; k < 8; k++) {
            result[k] = result[k - distance];
        }
        return result;
    }

    private static void tooManySigns() {
        DUE.sentence("24 at the first of these, as soon as it is read, if there are more than 286 signs");
        for (int n = 0; n < 8; n++) {
            for (int wrong = 30; wrong < 32; wrong++) {
                int at = moved(n).block(1, 2).size();
                PACKED.faulty("signs: " + (257 + wrong), 60, moved(n).block(1, 2).number(wrong, 5), 24, at);
                PACKED.faulty("both are too many", 60, moved(n).block(1, 2).number(wrong, 5).number(31, 5), 24, at);
            }
        }
        Bits early = moved(toAByte(8)).block(1, 2).number(30, 5);
        DUE.same("they end with a byte", early.size() % 8, 0);
        PACKED.faulty("nothing is behind them", 60, early, 24, early.size() - 5);
        PACKED.lacking("286 signs, and nothing behind them", 60, moved(toAByte(8)).block(1, 2).number(29, 5));
        int[] most = signs(286, 0, 1, 256, 2, 285, 2);
        PACKED.good("286 signs", 1, block(most, 0).code("0").code("0").code("10").sum(0, 0));
        PACKED.good("257 signs", 1, block(signs(257, 0, 1, 256, 1), 0).code("0").code("0").code("1").sum(0, 0));
    }

    private static void tooManyDistances() {
        DUE.sentence("24 .. at the second one if more than 30 distances");
        for (int n = 0; n < 8; n++) {
            for (int wrong = 30; wrong < 32; wrong++) {
                int at = moved(n).block(1, 2).size() + 5;
                PACKED.faulty("distances: " + (wrong + 1), 60, moved(n).block(1, 2).number(29, 5).number(wrong, 5), 24, at);
                PACKED.faulty("of 257 signs", 60, moved(n).block(1, 2).number(0, 5).number(wrong, 5).bytes(0), 24, at);
            }
        }
        Bits early = moved(toAByte(13)).block(1, 2).number(29, 5).number(30, 5);
        DUE.same("they end with a byte", early.size() % 8, 0);
        PACKED.faulty("nothing is behind them", 60, early, 24, early.size() - 5);
        PACKED.lacking("30 distances, and nothing behind them at all", 60,
            moved(toAByte(13)).block(1, 2).number(29, 5).number(29, 5));
        PACKED.lacking("30 distances, and nothing behind them", 1, Bits.packed().block(1, 2).number(29, 5).number(29, 5));
        int[] thirty = new int[30];
        PACKED.good("30 distances", 1, block(signs(257, 0, 1, 256, 1), thirty).code("001").sum(0, 0));
        PACKED.good("286 and 30", 1, block(signs(286, 0, 1, 256, 1), thirty).code("001").sum(0, 0));
        thirty[29] = 1;
        PACKED.good("the last one has a length", 1, block(signs(257, 0, 1, 256, 1), thirty).code("001").sum(0, 0));
    }

    private static void lengthCodesInOrder() {
        DUE.sentence("Three bits each for the length codes, in the order 16 17 18 0 8 .. 15 (0 for the others)");
        // Four of them: 16, 17, 18 and 0. Only 18 and 0 have lengths, of one bit: all lengths would be 0.
        Bits bits = Bits.packed().block(1, 2).number(0, 5).number(0, 5).number(0, 4);
        bits.number(0, 3).number(0, 3).number(1, 3).number(1, 3);
        bits.code("1").number(127, 7).code("1").number(109, 7);
        int at = bits.size();
        PACKED.faulty("four: all lengths are 0", 1, bits.bytes(0), 24, at);
        // Eighteen of them: 1 is the last; 15 has none. 0: 1 bit, 1 and 18: 2 bits.
        bits = Bits.packed().block(1, 2).number(0, 5).number(0, 5).number(14, 4);
        int[] order = {16, 17, 18, 0, 8, 7, 9, 6, 10, 5, 11, 4, 12, 3, 13, 2, 14, 1};
        for (int code : order) {
            bits.number(code == 0 ? 1 : code == 1 || code == 18 ? 2 : 0, 3);
        }
        bits.code("10").code("11").number(127, 7).code("11").number(106, 7).code("10").code("0");
        PACKED.good("eighteen", 1, bits.code("001").sum(0, 0));
        // A block's length codes count for nothing in the next one.
        bits = Bits.packed().block(0, 2).allLengths(257, 1);
        bits.code(Bits.lengthCode(1));
        zeros(bits, 255);
        bits.code(Bits.lengthCode(1)).code(Bits.lengthCode(0)).code("01");
        bits.block(1, 2).number(0, 5).number(0, 5).number(0, 4).number(0, 3).number(0, 3).number(0, 3).number(1, 3);
        int next = bits.size() - 12;
        PACKED.faulty("in a second block", 1, bits.bytes(0, 0), 24, next);
        PACKED.lacking("not all of them there", 1, Bits.packed().block(1, 2).number(0, 14).number(0, 6));
    }

    private static void itself() {
        DUE.sentence("By these the lengths of signs, then distances, in one row: 0 .. 15 itself");
        int[] lengths = new int[257];
        for (int k = 0; k < 15; k++) {
            lengths[k] = k + 1;
        }
        lengths[256] = 15;
        for (int k = 0; k < 15; k++) {
            String code = "1".repeat(k) + "0";
            Bits bits = block(lengths, 0).code("0").code(code).code("1".repeat(15)).sum(0, k);
            DUE.same("a code of " + (k + 1), PACKED.good("a code of " + (k + 1), 1, bits).sample(0, 0, 0), k);
        }
    }

    private static void repeatOfNone() {
        DUE.sentence("16, and two bits .. (24 at the code, behind these bits, if there is none)");
        for (int n = 0; n < 8; n++) {
            Bits bits = moved(n).block(1, 2).allLengths(257, 1);
            int at = bits.size();
            PACKED.faulty("the first, moved " + n, 60, bits.code(Bits.lengthCode(16)).number(n % 4, 2), 24, at);
        }
        // A block before it has lengths, which are none of this one's.
        Bits bits = Bits.packed().block(0, 2).fourBitLengths(257, 1).lengths(signs(257, 0, 1, 256, 1)).lengths(0).code("1");
        bits.block(1, 2).allLengths(257, 1);
        int at = bits.size();
        PACKED.faulty("the first of a second block", 1, bits.code(Bits.lengthCode(16)).number(0, 2), 24, at);
        // The code 16 ends with a byte: its bits are not there, which counts first.
        bits = moved(toAByte(3 + 14 + 57 + 5)).block(1, 2).allLengths(257, 1).code(Bits.lengthCode(16));
        DUE.same("it ends with a byte", bits.size() % 8, 0);
        PACKED.lacking("behind these bits", 60, bits);
    }

    private static void repeatOfTheLengthBefore() {
        DUE.sentence("16, and two bits, 3 and that many times the length before");
        for (int more = 0; more < 4; more++) {
            // Signs 0 .. 3 + more have 4 bits, and so have others, 16 in all; the last one is 256.
            Bits bits = allLengths(257, 1).code(Bits.lengthCode(4)).code(Bits.lengthCode(16)).number(more, 2);
            for (int k = 4 + more; k < 15; k++) {
                bits.code(Bits.lengthCode(4));
            }
            zeros(bits, 256 - 15);
            bits.code(Bits.lengthCode(4)).code(Bits.lengthCode(0)).code("0000").code("1110").code("1111").sum(0, 14);
            DUE.same("the sample", PACKED.good((3 + more) + " times", 1, bits).sample(0, 0, 0), 14);
        }
        // It may be a 0, a repeat's one, and the last one of the signs, for distances.
        Bits bits = allLengths(257, 4).code(Bits.lengthCode(1)).code(Bits.lengthCode(2));
        bits.code(Bits.lengthCode(0)).code(Bits.lengthCode(16)).number(3, 2).code(Bits.lengthCode(16)).number(3, 2);
        zeros(bits, 254 - 13);
        bits.code(Bits.lengthCode(2)).code(Bits.lengthCode(16)).number(1, 2);
        // Signs 0, 1, 256: 0, 10, 11; distances 0 .. 3: 00, 01, 10, 11.
        PictureFile x = PACKED.good("over to the distances", 3, bits.code("0").code("10").code("10").code("0").code("11")
            .sum(0, 1, 1, 0));
        DUE.same("samples", State.samples(x), "1 1 0 ");
    }

    private static void repeatsOfZero() {
        DUE.sentence("17, three bits, 3 and that many times 0; 18, seven bits, 11 and that many times 0");
        for (int more = 0; more < 8; more++) {
            Bits bits = allLengths(257, 1).code(Bits.lengthCode(1)).code(Bits.lengthCode(17)).number(more, 3);
            zeros(bits, 255 - 3 - more);
            bits.code(Bits.lengthCode(1)).code(Bits.lengthCode(0));
            PACKED.good("17: " + (3 + more), 1, bits.code("001").sum(0, 0));
        }
        for (int more = 0; more < 128; more++) {
            Bits bits = allLengths(257, 1).code(Bits.lengthCode(1)).code(Bits.lengthCode(18)).number(more, 7);
            zeros(bits, 255 - 11 - more);
            bits.code(Bits.lengthCode(1)).code(Bits.lengthCode(0));
            PACKED.good("18: " + (11 + more), 1, bits.code("001").sum(0, 0));
        }
    }

    /** Lengths of 257 signs and 1 distance, of which so many are to come. */
    private static Bits toCome(int n) {
        Bits bits = allLengths(257, 1);
        zeros(bits, 258 - n);
        return bits;
    }

    private static void moreThanAreToCome() {
        DUE.sentence("24 at the code, behind its bits, if that is more than are to come");
        for (int n = 1; n < 20; n++) {
            for (int code = 16; code < 19; code++) {
                int bits = code == 16 ? 2 : code == 17 ? 3 : 7;
                int least = code == 18 ? 11 : 3;
                int at = toCome(n).size();
                for (int more = 0; more < 1 << bits; more++) {
                    Bits packed = toCome(n).code(Bits.lengthCode(code)).number(more, bits);
                    if (least + more > n) {
                        PACKED.faulty(code + " of " + (least + more) + " where " + n + " are to come", 1, packed, 24, at);
                    } else if (least + more == n) {
                        // All lengths are there, and not full.
                        PACKED.faulty(code + " of all " + n, 1, packed, 24, packed.size());
                    }
                }
            }
        }
        // The last length may be a repeat's: that of the distance.
        Bits bits = allLengths(257, 3).code(Bits.lengthCode(1));
        zeros(bits, 255);
        bits.code(Bits.lengthCode(1)).code(Bits.lengthCode(17)).number(0, 3);
        PACKED.good("17 for all distances", 1, bits.code("001").sum(0, 0));
    }

    private static void behindTheirBits() {
        DUE.sentence("24 .. behind its bits");
        for (int code = 16; code < 19; code++) {
            int asked = 0;
            for (int n = 0; n < 8; n++) {
                Bits bits = moved(n).block(1, 2).allLengths(257, 1);
                zeros(bits, 256);
                bits.code(Bits.lengthCode(code));
                if (bits.size() % 8 == 0) {
                    PACKED.lacking(code + " without its bits", 60, bits);
                    asked++;
                }
            }
            DUE.same("one ends with a byte", asked, 1);
        }
    }

    private static void readBitByBit() {
        DUE.sentence("CODES are read bit by bit, as long as one can be.");
        int[] lengths = signs(258, 0, 1, 256, 2, 257, 2);
        int wanted = 0;
        for (int zeros = 1; zeros < 9; zeros++) {
            Bits bits = block(lengths, 1);
            for (int k = 0; k < zeros; k++) {
                bits.code("0");
            }
            bits.code("11");
            int at = bits.size();
            if (at % 8 == 7) {
                // Behind the bit 1, which is none, no other one is wanted.
                PACKED.faulty("one bit", 63, bits.code("1"), 25, at);
                wanted++;
            }
            if (at % 8 == 0) {
                PACKED.lacking("no bit", 63, bits);
                wanted++;
            }
        }
        DUE.same("both", wanted, 2);
        // A code of 15 bits that ends with the last byte, and is short of one bit.
        int[] longest = signs(257, 0, 1, 1, 2, 2, 3, 3, 4, 4, 5, 5, 6, 6, 7, 7, 8, 8, 9, 9, 10, 10, 11, 11, 12, 12, 13,
            13, 14, 14, 15, 256, 15);
        for (int zeros = 0; zeros < 8; zeros++) {
            Bits bits = block(longest, 0);
            for (int k = 0; k < zeros; k++) {
                bits.code("0");
            }
            bits.code("1".repeat(14));
            if (bits.size() % 8 == 0) {
                PACKED.lacking("short of one bit", 63, bits);
            }
        }
    }

    private static void codesByLengths() {
        DUE.sentence("BY LENGTHS they are: of those with a length, shorter ones first, then lesser numbers");
        int[][] all = {
            signs(257, 0, 1, 256, 1), signs(257, 255, 1, 256, 2, 0, 2), signs(257, 0, 2, 7, 2, 9, 2, 256, 2),
            signs(257, 0, 3, 1, 3, 2, 3, 3, 3, 4, 3, 5, 2, 6, 4, 256, 4),
            signs(257, 0, 4, 1, 1, 2, 3, 3, 4, 256, 2), signs(257, 100, 3, 50, 3, 0, 2, 256, 1)};
        for (int[] lengths : all) {
            String[] codes = Bits.codes(lengths);
            for (int sign = 0; sign < 256; sign++) {
                if (lengths[sign] > 0) {
                    Bits bits = block(lengths, 0).code(codes[0] == null ? codes[sign] : codes[0]).code(codes[sign])
                        .code(codes[256]).sum(0, sign);
                    DUE.same("sign " + sign, PACKED.good("sign " + sign, 1, bits).sample(0, 0, 0), sign);
                }
            }
        }
        // By hand: 5 has 00; 0 .. 4 have 010 .. 110; 6 and 256 have 1110 and 1111.
        Bits bits = block(all[3], 0).code("010").code("00").code("110").code("1110").code("1111").sum(0, 5, 4, 6);
        DUE.same("by hand", State.samples(PACKED.good("by hand", 3, bits)), "5 4 6 ");
    }

    private static void lengthCodesFull() {
        DUE.sentence("Length codes .. must be full .. else 24: for length codes at the first bit of their lengths");
        int[][] none = {{0, 0, 0, 0}, {1, 0, 0, 0}, {0, 0, 0, 1}, {7, 0, 0, 0}, {1, 1, 1, 0}, {1, 1, 1, 1}, {1, 2, 0, 0},
            {1, 2, 3, 0}, {1, 2, 2, 7}, {2, 2, 2, 0}, {7, 7, 7, 7}, {1, 1, 0, 7}, {1, 2, 3, 4}};
        for (int n = 0; n < 8; n++) {
            int at = moved(n).block(1, 2).size() + 14;
            for (int[] lengths : none) {
                Bits bits = moved(n).block(1, 2).number(0, 5).number(0, 5).number(0, 4);
                for (int length : lengths) {
                    bits.number(length, 3);
                }
                PACKED.faulty("length codes " + Arrays.toString(lengths), 60, bits, 24, at);
            }
        }
        int[][] full = {{1, 1, 0, 0}, {1, 2, 2, 0}, {0, 0, 1, 1}, {2, 2, 2, 2}, {1, 2, 3, 3}};
        for (int[] lengths : full) {
            Bits bits = Bits.packed().block(1, 2).number(0, 5).number(0, 5).number(0, 4);
            for (int length : lengths) {
                bits.number(length, 3);
            }
            // They are full: the fault is another one.
            int at = bits.size();
            if (lengths[0] == 1) {
                PACKED.faulty("full, and 16 is the first", 1, bits.code("0").number(0, 2), 24, at);
            } else {
                PACKED.lacking("full " + Arrays.toString(lengths), 1, bits);
            }
        }
        PACKED.faulty("one of 128 is missing", 1, withSevens(127), 24, 16 + 3 + 14);
    }

    /** Length codes that take up so many of 128 codes of seven bits. */
    private static Bits withSevens(int of128) {
        Bits bits = Bits.packed().block(1, 2).number(0, 5).number(0, 5).number(15, 4);
        int left = of128;
        for (int k = 0; k < 19; k++) {
            int length = 0;
            for (int bit = 1; bit < 8 && length == 0; bit++) {
                if (left >= 128 >> bit) {
                    length = bit;
                }
            }
            left -= length == 0 ? 0 : 128 >> length;
            bits.number(length, 3);
        }
        return bits.bytes(0);
    }

    private static void signsFull() {
        DUE.sentence("signs must be full (else 24 at the first bit behind all lengths)");
        int[][] wrong = {signs(257), signs(257, 256, 1), signs(257, 256, 15), signs(257, 0, 1, 256, 2),
            signs(257, 0, 2, 1, 2, 2, 2, 256, 3), signs(257, 0, 15, 256, 15), signs(257, 0, 1, 1, 1, 256, 1),
            signs(257, 0, 1, 1, 2, 256, 1), signs(257, 0, 2, 1, 2, 2, 2, 3, 2, 256, 15),
            signs(257, 0, 1, 1, 2, 2, 3, 3, 4, 4, 5, 5, 6, 6, 7, 7, 8, 8, 9, 9, 10, 10, 11, 11, 12, 12, 13, 13, 14, 256, 15)};
        for (int[] lengths : wrong) {
            Bits bits = block(lengths, 0);
            int at = bits.size();
            PACKED.faulty("signs", 1, bits.bytes(0, 0, 0), 24, at);
        }
        int[] all = new int[286];
        Arrays.fill(all, 8);
        for (int k = 0; k < 60; k++) {
            all[k] = 9;
        }
        // 226 codes of 8 bits and 60 of 9 are just full.
        String[] codes = Bits.codes(all);
        PictureFile x = PACKED.good("all 286 signs", 1, block(all, 0).code(codes[0]).code(codes[200]).code(codes[256])
            .sum(0, 200));
        DUE.same("its sample", x.sample(0, 0, 0), 200);
        all[285] = 9;
        Bits bits = block(all, 0);
        int at = bits.size();
        PACKED.faulty("one could be", 1, bits.bytes(0, 0), 24, at);
    }

    private static void endHasALength() {
        DUE.sentence("sign 256 must have a length");
        int[][] wrong = {signs(257, 0, 1, 1, 1), signs(257, 0, 1, 1, 2, 2, 2), signs(258, 0, 1, 257, 1),
            signs(258, 255, 1, 257, 1)};
        for (int[] lengths : wrong) {
            Bits bits = block(lengths, 0);
            int at = bits.size();
            PACKED.faulty("256 has none", 1, bits.bytes(0, 0, 0), 24, at);
        }
        // Lengths of distances are none of the signs'.
        Bits bits = block(signs(257, 0, 1), 1, 1);
        int at = bits.size();
        PACKED.faulty("a distance has one", 1, bits.bytes(0), 24, at);
    }

    private static void distancesFull() {
        DUE.sentence("distances must be full, or just one has a length, which is 1, or none has");
        int[] sign = signs(257, 0, 1, 256, 1);
        int[][] wrong = {{2}, {15}, {0, 2}, {0, 15}, {1, 2}, {1, 15}, {1, 1, 1}, {1, 1, 15}, {2, 2, 2}, {2, 2, 2, 2, 1},
            {2, 2, 2, 2, 15}, {1, 3, 3}, {1, 2, 3}, {0, 0, 3, 0}, {3, 3}};
        for (int[] lengths : wrong) {
            Bits bits = block(sign, lengths);
            int at = bits.size();
            PACKED.faulty("distances " + Arrays.toString(lengths), 1, bits.bytes(0, 0, 0), 24, at);
        }
        int[][] good = {{0}, {1}, {0, 0}, {0, 0, 1}, {1, 0, 0}, {1, 1}, {2, 2, 2, 2}, {1, 2, 2}, {0, 1, 0, 1}, {3, 3, 2, 1},
            new int[30]};
        for (int[] lengths : good) {
            PACKED.good("distances " + Arrays.toString(lengths), 1, block(sign, lengths).code("001").sum(0, 0));
        }
        // The one distance is used: its code is 0.
        int[] copy = signs(258, 0, 1, 256, 2, 257, 2);
        for (int k = 0; k < 4; k++) {
            int[] lengths = new int[4];
            lengths[k] = 1;
            Bits bits = block(copy, lengths).code("0").code("0").code("0").code("0").code("11").code("0").code("10");
            PACKED.good("the one distance " + k, 6, bits.sum(new int[7]));
        }
    }

    private static void placesOfCodesNotFull() {
        DUE.sentence("24 .. for the others at the first bit behind all lengths");
        for (int n = 0; n < 8; n++) {
            Bits bits = moved(n).block(1, 2).allLengths(257, 1).code(Bits.lengthCode(2));
            zeros(bits, 255);
            bits.code(Bits.lengthCode(1)).code(Bits.lengthCode(0));
            int at = bits.size();
            PACKED.faulty("signs, moved " + n, 60, bits.bytes(0, 0), 24, at);
            bits = moved(n).block(1, 2).allLengths(257, 1).code(Bits.lengthCode(1));
            zeros(bits, 255);
            bits.code(Bits.lengthCode(1)).code(Bits.lengthCode(13));
            at = bits.size();
            PACKED.faulty("distances, moved " + n, 60, bits.bytes(0, 0), 24, at);
            if (at % 8 == 0) {
                bits = moved(n).block(1, 2).allLengths(257, 1).code(Bits.lengthCode(1));
                zeros(bits, 255);
                bits.code(Bits.lengthCode(1)).code(Bits.lengthCode(13));
                // There is no bit behind all lengths: it would be where the check is.
                PACKED.faulty("nothing behind", 60, bits, 24, at);
            }
        }
    }

    private static final int[] LENGTHS = {
        3, 4, 5, 6, 7, 8, 9, 10, 11, 13, 15, 17, 19, 23, 27, 31, 35, 43, 51, 59, 67, 83, 99, 115, 131, 163, 195, 227, 258};
    private static final int[] LENGTH_BITS = {
        0, 0, 0, 0, 0, 0, 0, 0, 1, 1, 1, 1, 2, 2, 2, 2, 3, 3, 3, 3, 4, 4, 4, 4, 5, 5, 5, 5, 0};

    private static void lengthsOfCopies() {
        DUE.sentence("257 .. 285 a COPY of a LENGTH: 3 .. 10 for 257 .. 264; then by fours .. and 258 for 285");
        for (int k = 0; k < LENGTHS.length; k++) {
            for (int more = 0; more < 1 << LENGTH_BITS[k]; more++) {
                int length = LENGTHS[k] + more;
                int[] raw = new int[513];
                Bits bits = Bits.packed().block(1, 1).sign(0).sign(5).sign(257 + k).number(more, LENGTH_BITS[k])
                    .code("00000");
                raw[1] = 5;
                for (int i = 0; i < length; i++) {
                    raw[2 + i] = 5;
                }
                for (int i = 2 + length; i < 513; i++) {
                    raw[i] = 9;
                    bits.sign(9);
                }
                PictureFile x = DUE.good("sign " + (257 + k) + " and " + more, Files.of(64, 1, 6, 16, 0)
                    .piece("IDAT", bits.sign(256).sum(raw).all()).ended());
                int fives = 0;
                for (int i = 0; i < 256; i++) {
                    int sample = x.sample(i / 4, 0, i % 4);
                    fives += (sample >> 8 == 5 ? 1 : 0) + ((sample & 255) == 5 ? 1 : 0);
                }
                DUE.same("sign " + (257 + k) + " and " + more + ": bytes", fives, 1 + length);
            }
        }
    }

    private static void distancesOfCopies() {
        DUE.sentence("1 .. 4 for 0 .. 3; then by twos with 1, 2, .., 13 bits behind: 5, 7; 9, 13; 17, 25; .. for 4 .. 29");
        int begin = 1;
        for (int code = 0; code < 30; code++) {
            int bits = code < 4 ? 0 : code / 2 - 1;
            farCopy(code, 0, bits, begin);
            farCopy(code, (1 << bits) - 1, bits, begin + (1 << bits) - 1);
            if (bits > 1) {
                farCopy(code, 1, bits, begin + 1);
                farCopy(code, 1 << bits - 1, bits, begin + (1 << bits - 1));
            }
            begin += 1 << bits;
        }
        DUE.same("behind the last one", begin, 32769);
    }

    /** Three bytes, 1, 2, 3 among 0s, are copied over this distance. */
    private static void farCopy(int code, int more, int bits, int distance) {
        int[] raw = new int[32888];
        int at = distance + 4;
        // They may become filter bytes, too.
        for (int k = 0; k < 3 && 4 + k < at; k++) {
            raw[4 + k] = 1 + k;
        }
        Bits packed = Bits.packed().plain(0, Arrays.copyOf(raw, at)).block(0, 1).sign(257).code(Bits.binary(code, 5))
            .number(more, bits).sign(256);
        for (int k = 0; k < 3; k++) {
            raw[at + k] = raw[at + k - distance];
        }
        packed.plain(1, Arrays.copyOfRange(raw, at + 3, raw.length)).sum(raw);
        DUE.good("distance " + distance, Files.of(64, 64, 6, 16, 1).piece("IDAT", packed.all()).ended());
    }

    private static void bytesOfCopies() {
        DUE.sentence("So many bytes follow, each as the one that so many places before it is.");
        for (int distance = 1; distance <= 4; distance++) {
            for (int length = 3; length < 20; length++) {
                int[] raw = new int[5 + length];
                for (int k = 0; k < raw.length; k++) {
                    raw[k] = k < 5 ? k : raw[k - distance];
                }
                Bits bits = Bits.packed().block(1, 1).sign(0).sign(1).sign(2).sign(3).sign(4);
                Reference.copy(bits, length, distance);
                PictureFile x = PACKED.good(length + " from " + distance, raw.length - 1, bits.sign(256).sum(raw));
                for (int k = 1; k < raw.length; k++) {
                    DUE.same("byte " + k, x.sample(k - 1, 0, 0), raw[k]);
                }
            }
        }
        // Over blocks of other kinds, too.
        Bits bits = Bits.packed().plain(0, 0, 1, 2).block(0, 1).sign(3).sign(256).block(1, 1);
        Reference.copy(bits, 4, 3);
        DUE.same("samples", State.samples(PACKED.good("over blocks", 7, bits.sign(256).sum(0, 1, 2, 3, 1, 2, 3, 1))),
            "1 2 3 1 2 3 1 ");
    }

    private static void codeThatIsNone() {
        DUE.sentence("25: at a code that is none");
        int[] lengths = signs(258, 0, 1, 256, 2, 257, 2);
        for (int zeros = 1; zeros < 9; zeros++) {
            Bits bits = block(lengths, 0);
            Bits one = block(lengths, 0, 1);
            for (int k = 0; k < zeros; k++) {
                bits.code("0");
                one.code("0");
            }
            bits.code("11");
            one.code("11");
            int at = bits.size();
            // No bit of it is wanted, as there is no code: what is left of the byte, if it is left, is enough.
            PACKED.faulty("there is no distance, " + at % 8 + " bits of the byte are used", 60, bits, 25, at);
            PACKED.faulty("there is no distance, and bytes behind", 60, bits.number(0, 17), 25, at);
            at = one.size();
            PACKED.faulty("not the one distance", 60, one.code("1").number(0, 9), 25, at);
        }
    }

    private static void signsBeyond() {
        DUE.sentence("25 .. at the code of 286 and 287");
        for (int n = 0; n < 8; n++) {
            for (int sign = 286; sign < 288; sign++) {
                Bits bits = Bits.packed().block(1, 1).sign(0);
                for (int k = 0; k < n; k++) {
                    bits.sign(200);
                }
                int at = bits.size();
                byte[] packed = bits.sign(sign).all();
                PACKED.faulty("sign " + sign + " behind " + n, Packed.grey(60), packed, 25, at / 8);
            }
        }
        PACKED.faulty("as the first sign", 1, Bits.packed().block(1, 1).sign(286), 25, 19);
        Bits longest = Bits.packed().block(1, 1).sign(0).sign(285).code("00000").sign(256).sum(new int[259]);
        DUE.good("sign 285, the last one that is let in", Files.of(43, 1, 2, 16, 0).piece("IDAT", longest.all()).ended());
    }

    private static void distancesBeyond() {
        DUE.sentence("25 .. of distances 30 and 31");
        for (int n = 0; n < 8; n++) {
            for (int distance = 30; distance < 32; distance++) {
                Bits bits = Bits.packed().block(1, 1).sign(0);
                for (int k = 0; k < n; k++) {
                    bits.sign(200);
                }
                bits.sign(257);
                int at = bits.size();
                PACKED.faulty("distance " + distance + " behind " + n, 60, bits.code(Bits.binary(distance, 5)), 25, at);
            }
        }
    }

    private static void beyondTheFirstByte() {
        DUE.sentence("25 .. at the code of a distance that goes beyond the first byte");
        PACKED.faulty("there is no byte", 60, Bits.packed().block(1, 1).sign(257).code("00000"), 25, 16 + 3 + 7);
        for (int have = 1; have < 34; have++) {
            for (int distance = have; distance < have + 3; distance++) {
                Bits bits = Bits.packed().block(1, 1);
                int[] raw = new int[have + 3];
                for (int k = 0; k < have; k++) {
                    raw[k] = k == 0 ? 0 : 200;
                    bits.sign(raw[k]);
                }
                int at = bits.size() + 7;
                Reference.copy(bits, 3, distance);
                if (distance > have) {
                    PACKED.faulty("distance " + distance + " of " + have, 60, bits, 25, at);
                } else {
                    for (int k = 0; k < 3; k++) {
                        raw[have + k] = raw[k];
                    }
                    PACKED.good("the first byte itself, of " + have, have + 2, bits.sign(256).sum(raw));
                }
            }
        }
        int[] raw = new int[32767];
        Bits bits = Bits.packed().plain(0, raw).block(0, 1).sign(257);
        int at = bits.size();
        bits.code("11101").number(8191, 13);
        PACKED.faulty("32768 of 32767", Files.of(64, 64, 6, 16, 1), bits.all(), 25, at / 8);
    }

    private static void beyondTheWindow() {
        DUE.sentence("THE WINDOW is 2 to the w + 8 .. 25 .. at the code of a distance that goes beyond .. the window");
        int[] raw = new int[32888];
        for (int w = 0; w < 8; w++) {
            int window = 256 << w;
            int first = 16 * w + 8;
            int second = 31 - (first << 8) % 31;
            for (int distance = window - 1; distance <= Math.min(window + 2, 32768); distance++) {
                int have = Math.min(window + 5, 32800);
                Bits bits = new Bits().bytes(first, second).plain(0, Arrays.copyOf(raw, have)).block(0, 1);
                int at = bits.size() + 7;
                Reference.copy(bits, 3, distance);
                Files before = Files.of(64, 64, 6, 16, 1);
                if (distance > window) {
                    PACKED.faulty("distance " + distance + ", w " + w, before, bits.all(), 25, at / 8);
                } else {
                    bits.sign(256).plain(1, Arrays.copyOf(raw, raw.length - have - 3)).sum(raw);
                    DUE.good("distance " + distance + ", w " + w, before.piece("IDAT", bits.all()).ended());
                }
            }
        }
    }

    private static void orderInACopy() {
        DUE.sentence("codes of signs .. with bits behind the code .. Then the code of a distance .. (the first one counts)");
        for (int n = 0; n < 8; n++) {
            Bits bits = Bits.packed().block(1, 1).sign(0);
            for (int k = 0; k < n; k++) {
                bits.sign(200);
            }
            int sign = bits.size();
            // 284 has five bits behind it, then five of distance 31; or of distance 29 with 13 behind it.
            byte[] none = bits.sign(284).number(31, 5).code("11111").all();
            int at = sign + 13;
            PACKED.faulty("distance 31", Packed.grey(60), none, 25, at / 8);
            for (int have = sign / 8 + 1; 8 * have < sign + 18; have++) {
                PACKED.faulty("cut at " + have, Packed.grey(60), Arrays.copyOf(none, have), 20, have);
            }
            bits = Bits.packed().block(1, 1).sign(0);
            for (int k = 0; k < n; k++) {
                bits.sign(200);
            }
            byte[] far = bits.sign(284).number(31, 5).code("11101").number(8191, 13).all();
            PACKED.faulty("too far", Packed.grey(60), far, 25, at / 8);
            for (int have = sign / 8 + 1; 8 * have < sign + 31; have++) {
                // A distance is known when its bits are there.
                PACKED.faulty("too far, cut at " + have, Packed.grey(60), Arrays.copyOf(far, have), 20, have);
            }
        }
    }

    /** Cut off at each byte from there on, it lacks bits, whatever those that are left would say. */
    private static void cutFrom(String what, Bits whole, int from, int to) {
        byte[] all = whole.all();
        for (int have = from / 8 + 1; 8 * have < to; have++) {
            PACKED.faulty(what + ", cut at " + have, Packed.grey(60), Arrays.copyOf(all, have), 20, have);
        }
    }

    /** The codes of a block that has gone before, and those of this one, are let alone by bits that are too few. */
    private static void cutOff() {
        DUE.sentence("20 when bits .. are not there (within a block of kind 2)");
        for (int n = 1; n < 9; n++) {
            // Signs 0, 256: 0, 1. The bits of the next block are 1s: they could be the end of this one.
            Bits bits = Bits.packed().block(0, 2).fourBitLengths(257, 1).lengths(signs(257, 0, 1, 256, 1)).lengths(0);
            bits.code("0".repeat(n)).code("1");
            int at = bits.size();
            bits.block(1, 2).number(29, 5).number(29, 5).number(15, 4);
            for (int k = 0; k < 19; k++) {
                bits.number(7, 3);
            }
            cutFrom("numbers and length codes", bits, at, bits.size());
            // Signs 0, 256, 284: 0, 10, 11. The bits behind 284, and behind its distance, begin with 10.
            bits = block(signs(285, 0, 1, 256, 2, 284, 2), signs(30, 29, 1)).code("0".repeat(n)).code("11");
            at = bits.size();
            bits.number(1, 5).code("0").number(1, 13);
            cutFrom("bits of a copy", bits, at, bits.size());
        }
        for (int n = 0; n < 8; n++) {
            // The bit that says that a block is the last one is there, and its kind is not, or half of it.
            Bits bits = moved(n).block(1, 3);
            int at = bits.size() - 3;
            cutFrom("the kind of a block", bits, at, at + 3);
        }
    }

    /** Files with one wrong bit: those that are let in are those that another reader lets in. */
    private static void likeAnotherReader() {
        DUE.sentence("(all of section 3)");
        Random random = new Random(99);
        PictureFile x = new PictureFile();
        int let = 0;
        for (int turn = 0; turn < 20000; turn++) {
            byte[] raw = new byte[41];
            for (int k = 1; k < raw.length; k++) {
                raw[k] = (byte) (random.nextInt(4) == 0 ? random.nextInt(256) : k & 3);
            }
            byte[] packed = turn % 3 == 0 ? Reference.shortPacked(raw)
                : Reference.deflated(raw, 9, turn % 3 == 1 ? 0 : Deflater.HUFFMAN_ONLY);
            int bit = 16 + random.nextInt(8 * packed.length - 48);
            packed[bit / 8] ^= (byte) (1 << bit % 8);
            byte[] got = inflated(packed, raw.length);
            Files.load(x, Packed.grey(40).piece("IDAT", withSum(packed, got)).ended());
            x.read();
            boolean good = x.fault() == 0 || x.fault() == 30;
            DUE.same("bit " + bit + " of turn " + turn + ", fault " + x.fault(), good ? 1 : 0, got != null ? 1 : 0);
            let += good ? 1 : 0;
        }
        DUE.that("some are let in", let > 1000);
        DUE.that("most are not", let < 19000);
    }

    /** What another reader makes of it, sum left aside; null: not just so many bytes. */
    private static byte[] inflated(byte[] packed, int n) {
        Inflater inflater = new Inflater(true);
        inflater.setInput(packed, 2, packed.length - 6);
        byte[] result = new byte[n + 300];
        try {
            int had = inflater.inflate(result);
            boolean all = inflater.finished() && had == n && inflater.getRemaining() == 0;
            return all ? Arrays.copyOf(result, n) : null;
        } catch (DataFormatException e) {
            return null;
        } finally {
            inflater.end();
        }
    }

    private static byte[] withSum(byte[] packed, byte[] raw) {
        byte[] result = packed.clone();
        if (raw != null) {
            java.util.zip.Adler32 sum = new java.util.zip.Adler32();
            sum.update(raw);
            for (int k = 0; k < 4; k++) {
                result[packed.length - 4 + k] = (byte) (sum.getValue() >> (24 - 8 * k));
            }
        }
        return result;
    }
}
