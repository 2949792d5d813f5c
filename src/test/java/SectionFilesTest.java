import java.util.Arrays;
import java.util.zip.CRC32;

/** The sentences of section 2, of files and their pieces: the faults 1 to 11, each at its edges. */
public final class SectionFilesTest {
    private static final Due DUE = new Due();
    /** Packed bytes for a point of one byte. */
    private static final byte[] PACKED = Reference.plainPacked(new byte[2]);
    /** The first byte of the piece behind IHDR. */
    private static final int SECOND = 33;

    public static void main(String[] args) {
        highestByteFirst();
        check();
        mark();
        markNotThere();
        lengthAndTypeNotThere();
        lengthTooLarge();
        noLetter();
        notAllThere();
        checkIsWrong();
        headerIsFirst();
        headerIsNoOther();
        onceAtMost();
        beforeAllData();
        thinsBehindColours();
        kindsWithoutColours();
        kindsWithoutThins();
        kindThree();
        dataFollowOneAnother();
        endBehindData();
        greatLetter();
        leftOut();
        lengthOfHeader();
        lengthOfColours();
        lengthOfThins();
        lengthOfEnd();
        header();
        headerFromTheLeft();
        thinTooLarge();
        behindTheEnd();
        orderInAPiece();
        orderOfPieces();
        piecesBeforePacked();
        DUE.finish();
    }

    private static Files grey() {
        return Files.of(1, 1, 0, 8, 0);
    }

    private static byte[] small() {
        return grey().piece("IDAT", PACKED).ended();
    }

    private static void highestByteFirst() {
        DUE.sentence("Numbers of two and four bytes have the highest byte first.");
        PictureFile x = DUE.good("thin numbers", Files.of(1, 1, 2, 16, 0)
            .piece("tRNS", Files.row(1, 2, 128, 0, 255, 254)).piece("IDAT", Reference.plainPacked(new byte[7])).ended());
        DUE.same("the first", x.ofThin(0), 258);
        DUE.same("the second", x.ofThin(1), 32768);
        DUE.same("the third", x.ofThin(2), 65534);
        DUE.faulty("a width of 1, its lowest byte first", Files.of(0x01000000, 1, 0, 8, 0).ended(), 9, 16);
        byte[] text = new byte[258];
        DUE.good("a length of 258", grey().piece("tEXt", text).piece("IDAT", PACKED).ended());
    }

    private static void check() {
        DUE.sentence("a CHECK (four bytes) of type and bytes");
        PictureFile x = new PictureFile();
        x.feed(0x49484452, 0, 0, 0, 0);
        for (int n = 0; n <= 16; n++) {
            for (int value : new int[] {0, 1, 128, 255}) {
                x.spoil(n == 0 ? 0 : n - 1, value);
                CRC32 due = new CRC32();
                for (int k = 0; k < n; k++) {
                    due.update(x.byteAt(k));
                }
                x.mend(0, n);
                long got = (long) x.byteAt(n) << 24 | x.byteAt(n + 1) << 16 | x.byteAt(n + 2) << 8 | x.byteAt(n + 3);
                DUE.same("of " + n + " bytes", got, due.getValue());
            }
        }
    }

    private static void mark() {
        DUE.sentence("1: at the first of the eight bytes that is another one");
        DUE.good("no fault", small());
        for (int k = 0; k < 8; k++) {
            for (int change : new int[] {1, 128, 255}) {
                byte[] other = small();
                other[k] ^= (byte) change;
                DUE.faulty("byte " + k, other, 1, k);
                for (int later = k + 1; later < 8; later++) {
                    byte[] two = other.clone();
                    two[later] ^= 1;
                    DUE.faulty("bytes " + k + ", " + later, two, 1, k);
                }
            }
        }
    }

    private static void markNotThere() {
        DUE.sentence("1: .. or not there");
        for (int n = 0; n < 8; n++) {
            DUE.faulty(n + " bytes", Arrays.copyOf(small(), n), 1, n);
        }
        byte[] other = Arrays.copyOf(small(), 5);
        other[3] = 0;
        DUE.faulty("another one before", other, 1, 3);
        DUE.faulty("all eight, and nothing more", Arrays.copyOf(small(), 8), 2, 8);
        // What a longer tape had there before counts for nothing.
        PictureFile x = new PictureFile();
        Files.load(x, small());
        x.end(7);
        DUE.same("seven bytes of a longer tape", x.read(), 7);
        DUE.same("its fault", x.fault(), 1);
    }

    private static void lengthAndTypeNotThere() {
        DUE.sentence("2 at the tape's end, when length and type are not all there");
        byte[] file = Files.of(1, 1, 3, 8, 0).piece("PLTE", Files.row(1, 2, 3)).piece("tRNS", Files.row(1))
            .piece("IDAT", PACKED).piece("tEXt").ended();
        int[] starts = {8, 33, 33 + 15, 33 + 15 + 13, file.length - 24, file.length - 12};
        for (int start : starts) {
            for (int n = start; n < start + 8; n++) {
                DUE.faulty(n + " bytes", Arrays.copyOf(file, n), 2, n);
            }
        }
        // Before 3 and 4, as long as one byte of the type is missing.
        DUE.faulty("a length that is too large", grey().number(-1).bytes('t', 'E', 'X').all(), 2, SECOND + 7);
        DUE.faulty("what is no letter", grey().number(0).bytes(0, 0, 0).all(), 2, SECOND + 7);
        DUE.faulty("both, and all there", grey().number(-1).bytes(0, 0, 0, 0).all(), 3, SECOND);
    }

    private static void lengthTooLarge() {
        DUE.sentence("3 at its first byte: the length is above 2147483647");
        int[] above = {0x80000000, 0x80000001, 0xFF000000, -1, 0x8000000D};
        for (int length : above) {
            DUE.faulty("the first piece, " + length, new Files().number(length).bytes('I', 'H', 'D', 'R')
                .bytes(1, 2, 3, 4).all(), 3, 8);
            DUE.faulty("another piece, " + length, grey().number(length).bytes('t', 'E', 'X', 't').all(), 3, SECOND);
        }
        DUE.faulty("the largest one that is not", grey().number(0x7FFFFFFF).bytes('t', 'E', 'X', 't').all(),
            2, SECOND + 8);
        // Twelve bytes and these are 11 more than the largest number.
        DUE.faulty("near the largest one", grey().number(0x7FFFFFFF - 44).bytes('t', 'E', 'X', 't').all(),
            2, SECOND + 8);
        DUE.faulty("the first piece, the largest", new Files().number(0x7FFFFFFF).bytes('I', 'H', 'D', 'R').all(), 2, 16);
    }

    private static void noLetter() {
        DUE.sentence("4 at the first byte of its type that is no letter");
        int[] none = {0, 32, 48, 57, 'A' - 1, 'Z' + 1, 'a' - 1, 'z' + 1, 127, 128, 'A' + 128, 'z' + 128, 255};
        for (int value : none) {
            for (int k = 0; k < 4; k++) {
                int[] type = {'t', 'E', 'X', 't'};
                type[k] = value;
                DUE.faulty(value + " at " + k, grey().number(0).bytes(type).number(0).all(), 4, SECOND + 4 + k);
                for (int later = k + 1; later < 4; later++) {
                    int[] two = type.clone();
                    two[later] = 1;
                    DUE.faulty(value + " at " + k + " and " + later, grey().number(0).bytes(two).number(0).all(),
                        4, SECOND + 4 + k);
                }
            }
        }
        for (String type : new String[] {"aAAA", "aZZZ", "azzz", "zaaa", "aAzZ"}) {
            DUE.good("letters " + type, grey().piece(type).piece("IDAT", PACKED).ended());
        }
        DUE.faulty("great A", grey().piece("AAAA").ended(), 7, SECOND + 4);
        DUE.faulty("great Z", grey().piece("ZZZZ").ended(), 7, SECOND + 4);
        DUE.faulty("in the first piece", new Files().number(13).bytes('I', 'H', 'D', '1').all(), 4, 15);
    }

    private static void notAllThere() {
        DUE.sentence("2 at the tape's end: the piece is not all there");
        byte[] file = Files.of(1, 1, 3, 8, 0).piece("PLTE", Files.row(1, 2, 3)).piece("tRNS", Files.row(1))
            .piece("IDAT", PACKED).piece("tEXt").ended();
        for (int n = 8; n < file.length; n++) {
            DUE.faulty(n + " bytes", Arrays.copyOf(file, n), 2, n);
        }
        DUE.good("all bytes", file);
        PictureFile x = new PictureFile();
        Files.load(x, file);
        for (int n = file.length - 1; n >= 0; n--) {
            x.end(n);
            DUE.same("end(" + n + ")", x.read(), n);
            DUE.same("its fault", x.fault(), n < 8 ? 1 : 2);
        }
        for (int missing = 1; missing < 5; missing++) {
            byte[] one = grey().piece("tEXt", new byte[9]).all();
            DUE.faulty(missing + " bytes missing", Arrays.copyOf(one, one.length - missing), 2, one.length - missing);
        }
        // A length that is too large by one takes a byte of the next piece, or one that is not there.
        byte[] longer = small();
        longer[longer.length - 9] = 1;
        DUE.faulty("a length of one more", longer, 2, longer.length);
    }

    private static void checkIsWrong() {
        DUE.sentence("5 at its check: it is wrong");
        byte[] file = Files.of(1, 1, 3, 8, 0).piece("tEXt", new byte[2]).piece("PLTE", Files.row(1, 2, 3))
            .piece("tRNS", Files.row(1)).piece("IDAT", PACKED).ended();
        int start = 8;
        while (start < file.length) {
            int length = file[start + 2] << 8 | file[start + 3];
            int check = start + 8 + length;
            for (int k = start + 8; k < check + 4; k++) {
                for (int bit = 0; bit < 8; bit++) {
                    byte[] wrong = file.clone();
                    wrong[k] ^= (byte) (1 << bit);
                    DUE.faulty("bit " + bit + " of byte " + k, wrong, 5, check);
                }
            }
            start = check + 4;
        }
        byte[] type = grey().piece("tEXt").piece("IDAT", PACKED).ended();
        type[SECOND + 7] = 'u';
        DUE.faulty("another type", type, 5, SECOND + 8);
    }

    private static void headerIsFirst() {
        DUE.sentence("6 at its type: it cannot stand there: IHDR is the first one");
        byte[] header = Files.header(1, 1, 0, 8, 0);
        for (String type : new String[] {"IDAT", "IEND", "PLTE", "tRNS", "tEXt", "TEXt", "iHDR", "IHDr"}) {
            DUE.faulty(type + " is the first", new Files().piece(type).piece("IHDR", header).piece("IDAT", PACKED)
                .ended(), 6, 12);
        }
    }

    private static void headerIsNoOther() {
        DUE.sentence("IHDR is .. no other");
        byte[] header = Files.header(1, 1, 0, 8, 0);
        DUE.faulty("the second", grey().piece("IHDR", header).piece("IDAT", PACKED).ended(), 6, SECOND + 4);
        Files behind = grey().piece("tEXt").piece("IDAT", PACKED);
        int place = behind.size() + 4;
        DUE.faulty("behind data", behind.piece("IHDR", header).ended(), 6, place);
    }

    private static void onceAtMost() {
        DUE.sentence("PLTE and tRNS come once at most");
        byte[] one = new byte[3];
        for (int kind : new int[] {2, 3, 6}) {
            DUE.faulty("PLTE, kind " + kind, Files.of(1, 1, kind, 8, 0).piece("PLTE", one).piece("PLTE", one).ended(),
                6, SECOND + 15 + 4);
            DUE.faulty("PLTE, not the next", Files.of(1, 1, kind, 8, 0).piece("PLTE", one).piece("tEXt")
                .piece("PLTE", one).ended(), 6, SECOND + 15 + 12 + 4);
        }
        byte[] thin = new byte[2];
        DUE.faulty("tRNS, kind 0", grey().piece("tRNS", thin).piece("tRNS", thin).ended(), 6, SECOND + 14 + 4);
        DUE.faulty("tRNS, kind 2", Files.of(1, 1, 2, 8, 0).piece("tRNS", new byte[6]).piece("tRNS", new byte[6])
            .ended(), 6, SECOND + 18 + 4);
        DUE.faulty("tRNS, kind 3", Files.of(1, 1, 3, 8, 0).piece("PLTE", new byte[6]).piece("tRNS", new byte[1])
            .piece("tRNS", new byte[1]).ended(), 6, SECOND + 18 + 13 + 4);
        // Each read begins anew.
        PictureFile x = DUE.good("once", Files.of(1, 1, 3, 8, 0).piece("PLTE", one).piece("tRNS", new byte[1])
            .piece("IDAT", PACKED).ended());
        DUE.same("read again", x.read(), PictureFile.NONE);
    }

    private static void beforeAllData() {
        DUE.sentence("PLTE and tRNS come .. before all IDAT");
        DUE.faulty("PLTE", Files.of(1, 1, 2, 8, 0).piece("IDAT").piece("PLTE", new byte[3]).ended(),
            6, SECOND + 12 + 4);
        DUE.faulty("PLTE between", Files.of(1, 1, 2, 8, 0).piece("IDAT").piece("PLTE", new byte[3]).piece("IDAT").ended(),
            6, SECOND + 12 + 4);
        DUE.faulty("tRNS", grey().piece("IDAT").piece("tRNS", new byte[2]).ended(), 6, SECOND + 12 + 4);
        DUE.faulty("tRNS, kind 3", Files.of(1, 1, 3, 8, 0).piece("PLTE", new byte[3]).piece("IDAT")
            .piece("tRNS", new byte[1]).ended(), 6, SECOND + 15 + 12 + 4);
    }

    private static void thinsBehindColours() {
        DUE.sentence("tRNS behind PLTE");
        byte[] packed = Reference.plainPacked(new byte[4]);
        DUE.faulty("PLTE behind tRNS", Files.of(1, 1, 2, 8, 0).piece("tRNS", new byte[6]).piece("PLTE", new byte[3])
            .piece("IDAT", packed).ended(), 6, SECOND + 18 + 4);
        DUE.good("tRNS behind PLTE", Files.of(1, 1, 2, 8, 0).piece("PLTE", new byte[3]).piece("tRNS", new byte[6])
            .piece("IDAT", packed).ended());
        DUE.good("tRNS without PLTE", Files.of(1, 1, 2, 8, 0).piece("tRNS", new byte[6]).piece("IDAT", packed).ended());
        DUE.good("PLTE without tRNS", Files.of(1, 1, 2, 8, 0).piece("PLTE", new byte[3]).piece("IDAT", packed).ended());
    }

    private static void kindsWithoutColours() {
        DUE.sentence("PLTE not with kinds 0 and 4");
        for (int kind : new int[] {0, 4}) {
            for (int n : new int[] {0, 3, 4, 771}) {
                DUE.faulty("kind " + kind + ", " + n, Files.of(1, 1, kind, 8, 0).piece("PLTE", new byte[n]).ended(),
                    6, SECOND + 4);
            }
        }
    }

    private static void kindsWithoutThins() {
        DUE.sentence("tRNS not with 4 and 6");
        for (int kind : new int[] {4, 6}) {
            for (int n : new int[] {0, 1, 2, 6, 8}) {
                DUE.faulty("kind " + kind + ", " + n, Files.of(1, 1, kind, 8, 0).piece("tRNS", new byte[n]).ended(),
                    6, SECOND + 4);
            }
        }
        DUE.faulty("kind 6, behind PLTE", Files.of(1, 1, 6, 8, 0).piece("PLTE", new byte[3])
            .piece("tRNS", new byte[6]).ended(), 6, SECOND + 15 + 4);
    }

    private static void kindThree() {
        DUE.sentence("with kind 3 PLTE is before tRNS and IDAT");
        DUE.faulty("tRNS without PLTE", Files.of(1, 1, 3, 8, 0).piece("tRNS", new byte[1]).ended(), 6, SECOND + 4);
        DUE.faulty("tRNS before PLTE", Files.of(1, 1, 3, 8, 0).piece("tRNS", new byte[1]).piece("PLTE", new byte[3])
            .piece("IDAT", PACKED).ended(), 6, SECOND + 4);
        DUE.faulty("IDAT without PLTE", Files.of(1, 1, 3, 8, 0).piece("IDAT", PACKED).ended(), 6, SECOND + 4);
        DUE.faulty("IDAT before PLTE", Files.of(1, 1, 3, 8, 0).piece("IDAT").piece("PLTE", new byte[3])
            .piece("IDAT", PACKED).ended(), 6, SECOND + 4);
        DUE.faulty("tEXt is no PLTE", Files.of(1, 1, 3, 8, 0).piece("pLTE", new byte[3]).piece("IDAT", PACKED).ended(),
            6, SECOND + 15 + 4);
        // The colours of an earlier file are none of this one's.
        PictureFile x = DUE.good("with PLTE", Files.of(1, 1, 3, 8, 0).piece("PLTE", new byte[3])
            .piece("IDAT", PACKED).ended());
        for (int turn = 0; turn < 3; turn++) {
            Files.load(x, Files.of(1, 1, 3, 8, 0).piece("IDAT", PACKED).ended());
            DUE.same("without PLTE behind it", x.read(), SECOND + 4);
            DUE.same("its fault", x.fault(), 6);
        }
    }

    private static void dataFollowOneAnother() {
        DUE.sentence("pieces IDAT follow one another (with no piece at all between them)");
        for (int cut = 0; cut <= PACKED.length; cut++) {
            byte[] first = Arrays.copyOf(PACKED, cut);
            byte[] second = Arrays.copyOfRange(PACKED, cut, PACKED.length);
            DUE.good("two pieces", grey().piece("IDAT", first).piece("IDAT", second).ended());
            DUE.good("an empty one between", grey().piece("IDAT", first).piece("IDAT").piece("IDAT", second).ended());
            Files file = grey().piece("IDAT", first).piece("tEXt");
            int place = file.size() + 4;
            DUE.faulty("a piece between", file.piece("IDAT", second).ended(), 6, place);
            file = grey().piece("IDAT", first).piece("tEXt", new byte[7]).piece("aaaa");
            place = file.size() + 4;
            DUE.faulty("two pieces between", file.piece("IDAT", second).ended(), 6, place);
        }
        Files file = grey().piece("IDAT", PACKED).piece("IDAT").piece("tEXt");
        int place = file.size() + 4;
        DUE.faulty("the third is empty", file.piece("IDAT").ended(), 6, place);
        file = grey().piece("IDAT", PACKED);
        place = file.size() + 4;
        DUE.faulty("a great one between", file.piece("TEXt").piece("IDAT").ended(), 7, place);
    }

    private static void endBehindData() {
        DUE.sentence("IEND comes behind one at least");
        DUE.faulty("behind IHDR", grey().ended(), 6, SECOND + 4);
        DUE.faulty("behind PLTE", Files.of(1, 1, 2, 8, 0).piece("PLTE", new byte[3]).ended(), 6, SECOND + 15 + 4);
        DUE.faulty("behind tRNS", grey().piece("tRNS", new byte[2]).ended(), 6, SECOND + 14 + 4);
        DUE.faulty("behind tEXt", grey().piece("tEXt").ended(), 6, SECOND + 12 + 4);
        DUE.faulty("behind an empty IDAT", grey().piece("IDAT").ended(), 20, SECOND + 8);
        DUE.good("behind IDAT and tEXt", grey().piece("IDAT", PACKED).piece("tEXt").ended());
    }

    private static void greatLetter() {
        DUE.sentence("7 at its type, when it is none of these and its first letter is great");
        for (char letter = 'A'; letter <= 'Z'; letter++) {
            DUE.faulty("great " + letter, grey().piece(letter + "aaa", new byte[2]).piece("IDAT", PACKED).ended(),
                7, SECOND + 4);
        }
        for (String type : new String[] {"IDAt", "IdAT", "IHDr", "IENd", "PLTe", "TRNS", "TRns"}) {
            DUE.faulty(type, grey().piece(type).piece("IDAT", PACKED).ended(), 7, SECOND + 4);
        }
        Files file = grey().piece("IDAT", PACKED);
        int place = file.size() + 4;
        DUE.faulty("behind data", file.piece("QQQQ").ended(), 7, place);
    }

    private static void leftOut() {
        DUE.sentence("if that is small the piece is left out, and may stand anywhere, but not as the first one, "
            + "nor between two IDAT");
        for (char letter = 'a'; letter <= 'z'; letter++) {
            DUE.good("small " + letter, grey().piece(letter + "AAA", new byte[3]).piece("IDAT", PACKED).ended());
        }
        PictureFile x = DUE.good("everywhere", Files.of(1, 1, 3, 8, 0).piece("tEXt", Files.row(1, 2, 3)).piece("pLTE")
            .piece("PLTE", Files.row(1, 2, 3, 4, 5, 6)).piece("iDAT", Files.row(9)).piece("tRNS", Files.row(7, 8))
            .piece("iHDR").piece("trns", new byte[9]).piece("IDAT", PACKED).piece("aaaa").piece("iEND").ended());
        DUE.same("colours", x.about(5), 2);
        DUE.same("a colour", x.ofColour(1, 2), 6);
        DUE.same("thin numbers", x.about(6), 2);
        DUE.same("a thin number", x.ofThin(1), 8);
        DUE.faulty("the first one", new Files().piece("tEXt").piece("IHDR", Files.header(1, 1, 0, 8, 0)).ended(), 6, 12);
        DUE.faulty("between two IDAT", grey().piece("IDAT").piece("tEXt").piece("IDAT", PACKED).ended(),
            6, SECOND + 24 + 4);
    }

    private static void lengthOfHeader() {
        DUE.sentence("8 at its first byte: the length: of IHDR 13");
        byte[] header = Files.header(1, 1, 0, 8, 0);
        for (int n : new int[] {0, 1, 12, 14, 26, 300}) {
            DUE.faulty("of " + n, new Files().piece("IHDR", Arrays.copyOf(header, n)).piece("IDAT", PACKED).ended(), 8, 8);
        }
        DUE.good("of 13", new Files().piece("IHDR", header).piece("IDAT", PACKED).ended());
    }

    private static void lengthOfColours() {
        DUE.sentence("of PLTE three for each colour (1 .. 256 of them, and not more than kind 3 may have)");
        for (int kind : new int[] {2, 3, 6}) {
            byte[] packed = Reference.plainPacked(new byte[1 + State.channels(kind)]);
            for (int n = 0; n < 780; n++) {
                byte[] file = Files.of(1, 1, kind, 8, 0).piece("PLTE", new byte[n]).piece("IDAT", packed).ended();
                if (n % 3 == 0 && n >= 3 && n <= 768) {
                    DUE.good("of " + n, file);
                } else {
                    DUE.faulty("of " + n, file, 8, SECOND);
                }
            }
        }
        for (int depth = 1; depth <= 8; depth *= 2) {
            int most = 3 << depth;
            for (int n : new int[] {most - 2, most - 1, most + 1, most + 2, most + 3}) {
                DUE.faulty("depth " + depth + ", of " + n, Files.of(1, 1, 3, depth, 0).piece("PLTE", new byte[n])
                    .piece("IDAT", PACKED).ended(), 8, SECOND);
            }
            DUE.good("depth " + depth + ", of " + most, Files.of(1, 1, 3, depth, 0).piece("PLTE", new byte[most])
                .piece("IDAT", PACKED).ended());
        }
    }

    private static void lengthOfThins() {
        DUE.sentence("of tRNS as the kind wants (of 3 at least one byte)");
        for (int n = 0; n < 10; n++) {
            if (n != 2) {
                DUE.faulty("kind 0, of " + n, grey().piece("tRNS", new byte[n]).piece("IDAT", PACKED).ended(), 8, SECOND);
            }
            if (n != 6) {
                DUE.faulty("kind 2, of " + n, Files.of(1, 1, 2, 8, 0).piece("tRNS", new byte[n]).ended(), 8, SECOND);
            }
            byte[] three = Files.of(1, 1, 3, 4, 0).piece("PLTE", new byte[15]).piece("tRNS", new byte[n])
                .piece("IDAT", PACKED).ended();
            if (n >= 1 && n <= 5) {
                DUE.good("kind 3, of " + n, three);
            } else {
                DUE.faulty("kind 3, of " + n, three, 8, SECOND + 27);
            }
        }
        DUE.good("kind 0, of 2", grey().piece("tRNS", new byte[2]).piece("IDAT", PACKED).ended());
        DUE.good("kind 2, of 6", Files.of(1, 1, 2, 8, 0).piece("tRNS", new byte[6])
            .piece("IDAT", Reference.plainPacked(new byte[4])).ended());
    }

    private static void lengthOfEnd() {
        DUE.sentence("of IEND 0");
        for (int n : new int[] {1, 2, 13}) {
            Files file = grey().piece("IDAT", PACKED);
            int place = file.size();
            DUE.faulty("of " + n, file.piece("IEND", new byte[n]).all(), 8, place);
        }
        DUE.good("of 0", grey().piece("IDAT", PACKED).piece("IEND").all());
    }

    private static void header() {
        DUE.sentence("9, of IHDR, at the first byte of width or height, or at a byte behind, that says what is not let in");
        for (int side : new int[] {0, 65, 256, 65536, 0x01000001, 0x80000001, -1, 0x00010001, 0x00000101}) {
            DUE.faulty("width " + side, Files.of(side, 1, 0, 8, 0).ended(), 9, 16);
            DUE.faulty("height " + side, Files.of(1, side, 0, 8, 0).ended(), 9, 20);
        }
        for (int value = 0; value < 256; value++) {
            for (int k = 8; k < 13; k++) {
                byte[] bytes = Files.header(1, 1, 0, 8, 0);
                bytes[k] = (byte) value;
                boolean good = k == 8 ? Reference.has(0, value) : k == 9 ? Reference.has(value, 8)
                    : k == 12 ? value < 2 : value == 0;
                if (!good) {
                    DUE.faulty("byte " + k + " is " + value, new Files().piece("IHDR", bytes).ended(), 9, 16 + k);
                }
            }
        }
        DUE.good("1: laced", Files.of(1, 1, 0, 8, 1).piece("IDAT", PACKED).ended());
        DUE.sentence("a depth that no kind has at it; a kind without that depth at that");
        for (int depth : new int[] {1, 2, 4, 8, 16}) {
            for (int kind = 0; kind < 256; kind++) {
                if (!Reference.has(kind, depth)) {
                    DUE.faulty("kind " + kind + ", depth " + depth, Files.of(1, 1, kind, depth, 0).ended(), 9, 25);
                }
            }
        }
        for (int depth : new int[] {0, 3, 5, 6, 7, 9, 15, 17, 24, 32, 255}) {
            DUE.faulty("depth " + depth, Files.of(1, 1, 9, depth, 0).ended(), 9, 24);
        }
    }

    private static void headerFromTheLeft() {
        DUE.sentence("9 .. the first one counts");
        byte[] bytes = Files.header(0, 0, 1, 3, 2);
        bytes[10] = 1;
        bytes[11] = 1;
        int[] places = {0, 4, 8, 9, 10, 11, 12};
        int[] rights = {1, 1, 8, 0, 0, 0, 1};
        for (int k = 0; k < places.length; k++) {
            DUE.faulty("from " + places[k] + " on", new Files().piece("IHDR", bytes).ended(), 9, 16 + places[k]);
            bytes[places[k] < 8 ? places[k] + 3 : places[k]] = (byte) rights[k];
        }
        DUE.good("all is right now", new Files().piece("IHDR", bytes).piece("IDAT", PACKED).ended());
    }

    private static void thinTooLarge() {
        DUE.sentence("10, of tRNS, at a number of 2 to the depth or more");
        for (int depth = 1; depth <= 8; depth *= 2) {
            int n = 1 << depth;
            for (int wrong : new int[] {n, n + 1, 256, 65535, 32768}) {
                DUE.faulty("kind 0, depth " + depth + ": " + wrong, Files.of(1, 1, 0, depth, 0)
                    .piece("tRNS", Files.row(wrong >> 8, wrong)).ended(), 10, SECOND + 8);
            }
            PictureFile x = DUE.good("kind 0, depth " + depth, Files.of(1, 1, 0, depth, 0)
                .piece("tRNS", Files.row(0, n - 1)).piece("IDAT", PACKED).ended());
            DUE.same("the largest one", x.ofThin(0), n - 1);
        }
        DUE.good("kind 0, depth 16", Files.of(1, 1, 0, 16, 0).piece("tRNS", Files.row(255, 255))
            .piece("IDAT", Reference.plainPacked(new byte[3])).ended());
        for (int k = 0; k < 3; k++) {
            byte[] numbers = Files.row(0, 255, 0, 255, 0, 255);
            for (int later = k; later < 3; later++) {
                numbers[2 * later] = 1;
                numbers[2 * later + 1] = 0;
            }
            DUE.faulty("kind 2, from " + k, Files.of(1, 1, 2, 8, 0).piece("tRNS", numbers).ended(), 10, SECOND + 8 + 2 * k);
        }
        DUE.good("kind 2, depth 8", Files.of(1, 1, 2, 8, 0).piece("tRNS", Files.row(0, 255, 0, 255, 0, 255))
            .piece("IDAT", Reference.plainPacked(new byte[4])).ended());
        DUE.good("kind 2, depth 16", Files.of(1, 1, 2, 16, 0).piece("tRNS", Files.row(255, 255, 255, 255, 255, 255))
            .piece("IDAT", Reference.plainPacked(new byte[7])).ended());
        // Of kind 3 a number is 0 .. 255, whatever the depth is.
        for (int depth = 1; depth <= 8; depth *= 2) {
            PictureFile x = DUE.good("kind 3, depth " + depth, Files.of(1, 1, 3, depth, 0).piece("PLTE", new byte[6])
                .piece("tRNS", Files.row(1 << depth, 255)).piece("IDAT", PACKED).ended());
            DUE.same("255", x.ofThin(1), 255);
        }
    }

    private static void behindTheEnd() {
        DUE.sentence("With IEND the file ends: 11 at the first byte behind it.");
        byte[] file = small();
        for (int n : new int[] {1, 7, 8, 12, 400}) {
            DUE.faulty(n + " bytes behind", Arrays.copyOf(file, file.length + n), 11, file.length);
        }
        Files twice = grey().piece("IDAT", PACKED).piece("IEND");
        DUE.faulty("a piece behind", twice.piece("IEND").all(), 11, file.length);
        DUE.good("nothing behind", file);
        // A tape that has been longer ends where it ends.
        PictureFile x = new PictureFile();
        Files.load(x, Arrays.copyOf(file, file.length + 30));
        DUE.same("longer", x.read(), file.length);
        x.end(file.length);
        DUE.same("no longer", x.read(), PictureFile.NONE);
    }

    private static void orderInAPiece() {
        DUE.sentence("Of each piece, in this order");
        DUE.faulty("3 before 4", grey().number(-1).bytes('t', 1, 'X', 't').all(), 3, SECOND);
        DUE.faulty("3 before the second 2", grey().number(0x80000000).bytes('t', 'E', 'X', 't').all(), 3, SECOND);
        DUE.faulty("4 before the second 2", grey().number(9).bytes('t', 'E', 'X', '0').all(), 4, SECOND + 7);
        DUE.faulty("4 before 5", grey().number(0).bytes('t', 'E', '_', 't').number(1).all(), 4, SECOND + 6);
        DUE.faulty("the second 2 before 5", grey().number(0).bytes('t', 'E', 'X', 't').bytes(1, 2, 3).all(), 2, SECOND + 11);
        DUE.faulty("the second 2 before 6", grey().number(0).bytes('I', 'H', 'D', 'R').bytes(1, 2, 3).all(), 2, SECOND + 11);
        DUE.faulty("5 before 6", grey().number(0).bytes('I', 'E', 'N', 'D').number(1).all(), 5, SECOND + 8);
        DUE.faulty("5 before 7", grey().number(0).bytes('Q', 'Q', 'Q', 'Q').number(1).all(), 5, SECOND + 8);
        DUE.faulty("6 before 7", new Files().piece("QQQQ").all(), 6, 12);
        DUE.faulty("6 before 8: IEND", grey().piece("IEND", new byte[1]).all(), 6, SECOND + 4);
        DUE.faulty("6 before 8: PLTE", grey().piece("PLTE", new byte[1]).all(), 6, SECOND + 4);
        DUE.faulty("6 before 8: tRNS", Files.of(1, 1, 3, 8, 0).piece("tRNS").all(), 6, SECOND + 4);
        DUE.faulty("6 before 8: IHDR", grey().piece("IHDR", new byte[1]).all(), 6, SECOND + 4);
        DUE.faulty("8 before 9", new Files().piece("IHDR", Files.row(0, 0, 0, 0)).all(), 8, 8);
        DUE.faulty("8 before 10", grey().piece("tRNS", Files.row(255, 255, 255)).all(), 8, SECOND);
        DUE.faulty("8 before 11", grey().piece("IDAT", PACKED).piece("IEND", new byte[1]).bytes(1).all(),
            8, SECOND + 12 + PACKED.length);
    }

    private static void orderOfPieces() {
        DUE.sentence("the file is gone through from the left .. the first one counts");
        byte[] late = Files.of(1, 1, 0, 8, 0).piece("tRNS", Files.row(1, 0)).number(-1).number(0).all();
        DUE.faulty("10, then 3", late, 10, SECOND + 8);
        late[0] = 0;
        DUE.faulty("1, then 10", late, 1, 0);
        byte[] nine = new Files().piece("IHDR", Files.header(1, 1, 0, 8, 2)).bytes(1, 2).all();
        DUE.faulty("9, then 2", nine, 9, 28);
        byte[] six = grey().piece("IEND").number(0).bytes(0, 0, 0, 0).all();
        DUE.faulty("6, then 4", six, 6, SECOND + 4);
        byte[] eight = Files.of(1, 1, 2, 8, 0).piece("PLTE", new byte[4]).number(0).bytes('a', 'a', 'a', 'a').number(7).all();
        DUE.faulty("8, then 5", eight, 8, SECOND);
        byte[] five = small();
        five[29] ^= 1;
        five[five.length - 1] ^= 1;
        DUE.faulty("5, then 5", five, 5, 29);
    }

    private static void piecesBeforePacked() {
        DUE.sentence("all its pieces, and then its packed bytes (a fault of a piece comes before any of these)");
        byte[][] wrong = {{}, {0}, Files.row(120, 2), Files.row(120, 1, 7), Bits.packed().plain(1, 9, 9, 9).all(),
            Reference.plainPacked(Files.row(5, 0)), Bits.packed().plain(1, 0, 0).sum(1, 2).all(),
            Bits.packed().plain(1, 0, 0).sum(0, 0).bytes(9).all()};
        for (byte[] packed : wrong) {
            Files file = grey().piece("IDAT", packed);
            int place = file.size();
            byte[] ended = file.all();
            DUE.faulty("then 2", ended, 2, place);
            DUE.faulty("then 3", grey().piece("IDAT", packed).number(-1).number(0).all(), 3, place);
            DUE.faulty("then 4", grey().piece("IDAT", packed).number(0).number(0).all(), 4, place + 4);
            DUE.faulty("then 5", grey().piece("IDAT", packed).number(0).bytes('I', 'E', 'N', 'D').number(0).all(),
                5, place + 8);
            DUE.faulty("then 6", grey().piece("IDAT", packed).piece("tRNS", new byte[2]).ended(), 6, place + 4);
            DUE.faulty("then 7", grey().piece("IDAT", packed).piece("QQQQ").ended(), 7, place + 4);
            DUE.faulty("then 8", grey().piece("IDAT", packed).piece("IEND", new byte[1]).all(), 8, place);
            DUE.faulty("then 11", grey().piece("IDAT", packed).piece("IEND").bytes(0).all(), 11, place + 12);
        }
        byte[] colour = Files.of(1, 1, 3, 8, 0).piece("PLTE", new byte[3])
            .piece("IDAT", Reference.plainPacked(Files.row(0, 1))).piece("IEND").bytes(1).all();
        DUE.faulty("31, then 11", colour, 11, colour.length - 1);
    }
}
