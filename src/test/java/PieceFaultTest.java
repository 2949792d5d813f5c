import java.util.Arrays;

/** Promises 4 and 5: the faults 1 to 11, of the file and its pieces. */
public final class PieceFaultTest {
    private static final Due DUE = new Due();
    /** Packed bytes for a point of one byte. */
    private static final byte[] PACKED = Reference.plainPacked(new byte[2]);

    public static void main(String[] args) {
        mark();
        endsTooEarly();
        length();
        letters();
        check();
        orderWithinAPiece();
        headerStands();
        coloursStand();
        thinsStand();
        dataStands();
        endStands();
        unknown();
        lengths();
        header();
        thinNumbers();
        behindTheEnd();
        piecesBeforePacked();
        DUE.finish();
    }

    private static byte[] small() {
        return Files.of(1, 1, 0, 8, 0).piece("IDAT", PACKED).ended();
    }

    private static void mark() {
        DUE.good("no fault", small());
        for (int k = 0; k < 8; k++) {
            byte[] other = small();
            other[k] ^= 64;
            DUE.faulty("mark, byte " + k, other, 1, k);
            DUE.faulty("mark, " + k + " bytes", Arrays.copyOf(small(), k), 1, k);
        }
        byte[] two = small();
        two[3] = 0;
        two[6] = 0;
        DUE.faulty("mark, two bytes", two, 1, 3);
    }

    /** However much of a file is missing, it is not all there at the tape's end. */
    private static void endsTooEarly() {
        byte[] file = Files.of(1, 1, 3, 8, 0).piece("PLTE", Files.row(1, 2, 3)).piece("tRNS", Files.row(1))
            .piece("IDAT", PACKED).ended();
        for (int n = 8; n < file.length; n++) {
            DUE.faulty(n + " bytes", Arrays.copyOf(file, n), 2, n);
        }
        PictureFile x = new PictureFile();
        Files.load(x, file);
        for (int n = file.length - 1; n >= 0; n--) {
            x.end(n);
            DUE.same("end(" + n + ")", x.read(), n);
            DUE.same("its fault", x.fault(), n < 8 ? 1 : 2);
        }
    }

    private static void length() {
        DUE.faulty("length 0x80000000", Files.of(1, 1, 0, 8, 0).number(0x80000000).number(0).all(), 3, 33);
        DUE.faulty("length -1", new Files().number(-1).number(0).all(), 3, 8);
        DUE.faulty("length -1, not all there", new Files().number(-1).bytes(65, 65, 65).all(), 2, 15);
        DUE.faulty("length 0x7FFFFFFF", new Files().number(0x7FFFFFFF).bytes(65, 65, 65, 65).all(), 2, 16);
        DUE.faulty("length 0x7FFFFFFF, no letter", new Files().number(0x7FFFFFFF).bytes(65, 65, 65, 48).all(), 4, 15);
        DUE.faulty("one byte missing", new Files().number(5).bytes(65, 65, 65, 65).bytes(1, 2, 3, 4, 5, 6, 7, 8).all(),
            2, 24);
    }

    private static void letters() {
        int[] none = {0, 48, 57, 64, 91, 96, 123, 127, 128, 193, 225, 255};
        for (int value : none) {
            for (int k = 0; k < 4; k++) {
                int[] type = {'t', 'E', 'X', 't'};
                type[k] = value;
                DUE.faulty("type with " + value, Files.of(1, 1, 0, 8, 0).number(0).bytes(type).number(0).all(),
                    4, 37 + k);
            }
        }
        DUE.faulty("two that are none", new Files().number(0).bytes('I', 1, 2, 'R').all(), 4, 13);
        for (String type : new String[] {"aZAz", "zAza"}) {
            DUE.good("letters " + type,
                Files.of(1, 1, 0, 8, 0).piece(type).piece("IDAT", PACKED).ended());
        }
    }

    private static void check() {
        byte[] file = small();
        int[] starts = {8, 33, 33 + 12 + PACKED.length};
        for (int start : starts) {
            int size = (file[start + 2] & 255) << 8 | file[start + 3] & 255;
            for (int k = start + 8; k < start + 12 + size; k++) {
                byte[] wrong = file.clone();
                wrong[k] ^= 1;
                DUE.faulty("the bit of byte " + k, wrong, 5, start + 8 + size);
            }
        }
    }

    /** A wrong check counts before what the piece says, and where it stands. */
    private static void orderWithinAPiece() {
        DUE.faulty("check before place", new Files().number(0).bytes('I', 'E', 'N', 'D').number(0).all(), 5, 16);
        DUE.faulty("place before length", new Files().piece("IEND", new byte[1]).all(), 6, 12);
        DUE.faulty("place before unknown", new Files().piece("QQQQ").all(), 6, 12);
        DUE.faulty("length before what it says",
            new Files().piece("IHDR", Arrays.copyOf(Files.header(0, 0, 9, 9, 9), 12)).all(), 8, 8);
        DUE.faulty("the first of two pieces", Files.of(1, 1, 0, 8, 0).piece("IEND").number(-1).number(0).all(), 6, 37);
    }

    private static void headerStands() {
        DUE.faulty("no header", new Files().piece("IDAT", PACKED).ended(), 6, 12);
        DUE.faulty("one that is left out before it", new Files().piece("tEXt")
            .piece("IHDR", Files.header(1, 1, 0, 8, 0)).piece("IDAT", PACKED).ended(), 6, 12);
        byte[] header = Files.header(1, 1, 0, 8, 0);
        DUE.faulty("two headers", Files.of(1, 1, 0, 8, 0).piece("IHDR", header).piece("IDAT", PACKED).ended(), 6, 37);
        Files behind = Files.of(1, 1, 0, 8, 0).piece("IDAT", PACKED);
        DUE.faulty("a header behind", behind.piece("IHDR", new byte[1]).ended(), 6, 33 + 12 + PACKED.length + 4);
    }

    private static void coloursStand() {
        byte[] one = new byte[3];
        DUE.faulty("kind 0", Files.of(1, 1, 0, 8, 0).piece("PLTE", one).piece("IDAT", PACKED).ended(), 6, 37);
        DUE.faulty("kind 4", Files.of(1, 1, 4, 8, 0).piece("PLTE", one).piece("IDAT", PACKED).ended(), 6, 37);
        for (int kind : new int[] {2, 3, 6}) {
            DUE.faulty("twice, kind " + kind, Files.of(1, 1, kind, 8, 0).piece("PLTE", one).piece("PLTE", one).ended(),
                6, 33 + 15 + 4);
        }
        DUE.faulty("behind data", Files.of(1, 1, 2, 8, 0).piece("IDAT").piece("PLTE", one).ended(), 6, 33 + 12 + 4);
        DUE.faulty("behind thin numbers", Files.of(1, 1, 2, 8, 0).piece("tRNS", new byte[6]).piece("PLTE", one).ended(),
            6, 33 + 18 + 4);
        DUE.faulty("a wrong one counts by its place", Files.of(1, 1, 4, 8, 0).piece("PLTE", new byte[4]).ended(), 6, 37);
    }

    private static void thinsStand() {
        for (int kind : new int[] {4, 6}) {
            DUE.faulty("kind " + kind, Files.of(1, 1, kind, 8, 0).piece("tRNS", new byte[2]).ended(), 6, 37);
        }
        DUE.faulty("kind 3 without colours", Files.of(1, 1, 3, 8, 0).piece("tRNS", new byte[1]).ended(), 6, 37);
        DUE.faulty("twice", Files.of(1, 1, 0, 8, 0).piece("tRNS", new byte[2]).piece("tRNS", new byte[2]).ended(),
            6, 33 + 14 + 4);
        DUE.faulty("behind data", Files.of(1, 1, 0, 8, 0).piece("IDAT", PACKED).piece("tRNS", new byte[2]).ended(),
            6, 33 + 12 + PACKED.length + 4);
    }

    private static void dataStands() {
        DUE.faulty("kind 3 without colours", Files.of(1, 1, 3, 8, 0).piece("IDAT", PACKED).ended(), 6, 37);
        byte[] first = Arrays.copyOf(PACKED, 5);
        byte[] second = Arrays.copyOfRange(PACKED, 5, PACKED.length);
        DUE.good("two pieces", Files.of(1, 1, 0, 8, 0).piece("IDAT", first).piece("IDAT", second).ended());
        Files file = Files.of(1, 1, 0, 8, 0).piece("IDAT", first).piece("tEXt");
        int place = file.size() + 4;
        DUE.faulty("a piece between them", file.piece("IDAT", second).ended(), 6, place);
        file = Files.of(1, 1, 0, 8, 0).piece("IDAT", first).piece("tEXt").piece("tEXt");
        place = file.size() + 4;
        DUE.faulty("two pieces between them", file.piece("IDAT", second).ended(), 6, place);
        file = Files.of(1, 1, 0, 8, 0).piece("IDAT", first);
        place = file.size() + 4;
        DUE.faulty("an unknown great one between them", file.piece("TEXt").piece("IDAT", second).ended(), 7, place);
    }

    private static void endStands() {
        DUE.faulty("behind no data", Files.of(1, 1, 0, 8, 0).ended(), 6, 37);
        DUE.faulty("behind colours", Files.of(1, 1, 2, 8, 0).piece("PLTE", new byte[3]).ended(), 6, 33 + 15 + 4);
    }

    private static void unknown() {
        for (String type : new String[] {"ADAT", "ZZZZ", "Idat", "IHDr", "Plte", "TRNS", "QaQa"}) {
            DUE.faulty(type, Files.of(1, 1, 0, 8, 0).piece(type, new byte[2]).piece("IDAT", PACKED).ended(), 7, 37);
        }
        Files file = Files.of(1, 1, 0, 8, 0).piece("IDAT", PACKED);
        int place = file.size() + 4;
        DUE.faulty("behind data", file.piece("GREA").ended(), 7, place);
    }

    private static void lengths() {
        byte[] header = Files.header(1, 1, 0, 8, 0);
        DUE.faulty("header of 12", new Files().piece("IHDR", Arrays.copyOf(header, 12)).all(), 8, 8);
        DUE.faulty("header of 14", new Files().piece("IHDR", Arrays.copyOf(header, 14)).all(), 8, 8);
        DUE.faulty("header of 0", new Files().piece("IHDR").all(), 8, 8);
        for (int n : new int[] {0, 1, 2, 4, 5, 767, 769, 770, 771}) {
            for (int kind : new int[] {2, 3, 6}) {
                DUE.faulty("colours of " + n, Files.of(1, 1, kind, 8, 0).piece("PLTE", new byte[n]).ended(), 8, 33);
            }
        }
        for (int depth = 1; depth <= 8; depth *= 2) {
            DUE.faulty("colours, depth " + depth,
                Files.of(1, 1, 3, depth, 0).piece("PLTE", new byte[3 * (1 << depth) + 3]).ended(), 8, 33);
            DUE.good("colours, depth " + depth,
                Files.of(1, 1, 3, depth, 0).piece("PLTE", new byte[3 * (1 << depth)]).piece("IDAT", PACKED).ended());
        }
        for (int n : new int[] {0, 1, 3, 6}) {
            DUE.faulty("thin, kind 0, " + n, Files.of(1, 1, 0, 8, 0).piece("tRNS", new byte[n]).ended(), 8, 33);
        }
        for (int n : new int[] {0, 2, 3, 5, 7}) {
            DUE.faulty("thin, kind 2, " + n, Files.of(1, 1, 2, 8, 0).piece("tRNS", new byte[n]).ended(), 8, 33);
        }
        for (int n : new int[] {0, 3, 4}) {
            DUE.faulty("thin, kind 3, " + n, Files.of(1, 1, 3, 8, 0).piece("PLTE", new byte[6])
                .piece("tRNS", new byte[n]).ended(), 8, 33 + 18);
        }
        Files file = Files.of(1, 1, 0, 8, 0).piece("IDAT", PACKED);
        DUE.faulty("end of 1", file.piece("IEND", new byte[1]).all(), 8, 33 + 12 + PACKED.length);
    }

    private static void header() {
        for (int size : new int[] {0, 65, 256, 0x01000001, 0x80000001, -1}) {
            DUE.faulty("width " + size, Files.of(size, 0, 9, 9, 9).ended(), 9, 16);
            DUE.faulty("height " + size, Files.of(64, size, 9, 9, 9).ended(), 9, 20);
        }
        for (int depth : new int[] {0, 3, 5, 7, 9, 32, 255}) {
            DUE.faulty("depth " + depth, Files.of(1, 64, 9, depth, 9).ended(), 9, 24);
        }
        for (int kind = 0; kind < 256; kind++) {
            for (int depth = 1; depth <= 16; depth *= 2) {
                if (!Reference.has(kind, depth)) {
                    DUE.faulty("kind " + kind + ", depth " + depth, Files.of(1, 1, kind, depth, 9).ended(), 9, 25);
                }
            }
        }
        for (int k = 10; k < 13; k++) {
            byte[] bytes = Files.header(1, 1, 0, 8, 2);
            bytes[k] = 2;
            DUE.faulty("byte " + k, new Files().piece("IHDR", bytes).ended(), 9, 16 + k);
            bytes[k] = (byte) 255;
            DUE.faulty("byte " + k, new Files().piece("IHDR", bytes).ended(), 9, 16 + k);
        }
        byte[] one = Files.header(1, 1, 0, 8, 0);
        one[10] = 1;
        DUE.faulty("byte 10 is 1", new Files().piece("IHDR", one).ended(), 9, 26);
        one[10] = 0;
        one[11] = 1;
        DUE.faulty("byte 11 is 1", new Files().piece("IHDR", one).ended(), 9, 27);
    }

    private static void thinNumbers() {
        for (int depth = 1; depth <= 8; depth *= 2) {
            int n = 1 << depth;
            byte[] raw = new byte[2];
            DUE.faulty("kind 0, depth " + depth,
                Files.of(1, 1, 0, depth, 0).piece("tRNS", Files.row(n >> 8, n)).ended(), 10, 41);
            DUE.good("kind 0, depth " + depth, Files.of(1, 1, 0, depth, 0).piece("tRNS", Files.row(0, n - 1))
                .piece("IDAT", Reference.plainPacked(raw)).ended());
        }
        DUE.good("kind 0, depth 16", Files.of(1, 1, 0, 16, 0).piece("tRNS", Files.row(255, 255))
            .piece("IDAT", Reference.plainPacked(new byte[3])).ended());
        DUE.faulty("kind 2, the first", Files.of(1, 1, 2, 8, 0).piece("tRNS", Files.row(1, 0, 2, 0, 0, 0)).ended(), 10, 41);
        DUE.faulty("kind 2, the second", Files.of(1, 1, 2, 8, 0).piece("tRNS", Files.row(0, 255, 128, 0, 9, 0)).ended(),
            10, 43);
        DUE.faulty("kind 2, the third", Files.of(1, 1, 2, 8, 0).piece("tRNS", Files.row(0, 1, 0, 0, 1, 0)).ended(), 10, 45);
        // Of kind 3 all bytes are let in, whatever the depth is.
        DUE.good("kind 3", Files.of(1, 1, 3, 1, 0).piece("PLTE", new byte[6]).piece("tRNS", Files.row(255, 2))
            .piece("IDAT", PACKED).ended());
    }

    private static void behindTheEnd() {
        Files file = Files.of(1, 1, 0, 8, 0).piece("IDAT", PACKED).piece("IEND");
        int place = file.size();
        DUE.faulty("a byte behind", file.bytes(0).all(), 11, place);
        DUE.faulty("a piece behind", file.piece("IDAT").piece("IEND").all(), 11, place);
        file = Files.of(1, 1, 0, 8, 0).piece("IDAT").piece("IEND");
        place = file.size();
        DUE.faulty("before the faults of packed bytes", file.bytes(0).all(), 11, place);
    }

    private static void piecesBeforePacked() {
        Files file = Files.of(1, 1, 0, 8, 0).piece("IDAT", Files.row(0, 0, 0));
        int place = file.size() + 4;
        DUE.faulty("pieces are all gone through first", file.piece("QQQQ").ended(), 7, place);
        file = Files.of(1, 1, 0, 8, 0).piece("IDAT", Files.row(0, 0, 0));
        DUE.faulty("no end", file.all(), 2, file.size());
    }
}
