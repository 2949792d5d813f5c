import java.util.Arrays;

/** The sentences of section 1, of pictures, rows and filters, each at its edges. */
public final class SectionPicturesTest {
    private static final Due DUE = new Due();
    private static final int MIN = Integer.MIN_VALUE;
    private static final int MAX = Integer.MAX_VALUE;
    /** The place of the first packed byte when there are no pieces but IHDR before it. */
    private static final int FIRST = 41;

    public static void main(String[] args) {
        sizes();
        depths();
        samplesOfAPoint();
        colours();
        coloursOfKindThree();
        coloursAreBytes();
        thinsAreSamples();
        thinsOfFirstColours();
        plainRows();
        passes();
        passesWithoutPoints();
        highestBitsFirst();
        leftBitsWhenRead();
        leftBitsWhenWritten();
        modulo();
        placesBefore();
        noneAtTheBeginning();
        noneInTheFirstRow();
        noneInThePass();
        half();
        nearest();
        nearestOfSeveral();
        DUE.finish();
    }

    private static byte[] file(int width, int height, int kind, int depth, boolean laced, int... raw) {
        Files file = Files.of(width, height, kind, depth, laced ? 1 : 0);
        if (kind == 3) {
            file.piece("PLTE", new byte[3 << depth]);
        }
        return file.piece("IDAT", Reference.plainPacked(Files.row(raw))).ended();
    }

    /** The raw bytes are read: these samples are there. */
    private static void read(String what, byte[] file, int... samples) {
        StringBuilder due = new StringBuilder();
        for (int sample : samples) {
            due.append(sample).append(' ');
        }
        DUE.same(what, State.samples(DUE.good(what, file)), due.toString());
    }

    private static PictureFile made(int width, int height, int kind, int depth, boolean laced) {
        PictureFile x = new PictureFile();
        x.make(width, height, kind, depth, laced);
        return x;
    }

    private static int rawBytes(int width, int height, int pointBits) {
        return height * (1 + (width * pointBits + 7) / 8);
    }

    private static void sizes() {
        DUE.sentence("a WIDTH and a HEIGHT, 1 .. 64");
        for (int width : new int[] {1, 2, 63, 64}) {
            for (int height : new int[] {1, 2, 63, 64}) {
                PictureFile x = made(width, height, 0, 8, false);
                DUE.same("width made", x.about(0), width);
                DUE.same("height made", x.about(1), height);
                x.set(width - 1, height - 1, 0, 255);
                x = DUE.good("read", file(width, height, 0, 8, false, new int[rawBytes(width, height, 8)]));
                DUE.same("width read", x.about(0), width);
                DUE.same("height read", x.about(1), height);
            }
        }
        for (int side : new int[] {0, 65, -1, 128, 256 + 1, 65536 + 1, MIN, MIN + 1, MAX, -64}) {
            PictureFile x = made(7, 5, 0, 8, false);
            DUE.keeps(IllegalArgumentException.class, "width " + side, x, y -> y.make(side, 1, 0, 8, false));
            DUE.keeps(IllegalArgumentException.class, "height " + side, x, y -> y.make(1, side, 0, 8, false));
            DUE.faulty("width " + side, Files.of(side, 1, 0, 8, 0).ended(), 9, 16);
            DUE.faulty("height " + side, Files.of(1, side, 0, 8, 0).ended(), 9, 20);
        }
    }

    private static void depths() {
        DUE.sentence("kind 0 .. of 1, 2, 4, 8 or 16 bits; 2 .. of 8 or 16; 3 .. of 1, 2, 4 or 8; 4 .. of 8 or 16; "
            + "6 .. of 8 or 16");
        int[] kinds = {MIN, -1, 0, 1, 2, 3, 4, 5, 6, 7, 8, 256, 256 + 2, MAX};
        int[] depths = {MIN, -8, -1, 0, 1, 2, 3, 4, 5, 7, 8, 9, 15, 16, 17, 32, 64, 256 + 8, MAX};
        for (int kind : kinds) {
            for (int depth : depths) {
                String what = "kind " + kind + ", depth " + depth;
                PictureFile x = made(2, 2, 4, 16, true);
                if (Reference.has(kind, depth)) {
                    x.make(1, 1, kind, depth, false);
                    DUE.same(what + ": kind", x.about(2), kind);
                    DUE.same(what + ": depth", x.about(3), depth);
                    int bits = State.channels(kind) * depth;
                    x = DUE.good(what, file(1, 1, kind, depth, false, new int[rawBytes(1, 1, bits)]));
                    DUE.same(what + ": kind read", x.about(2), kind);
                    DUE.same(what + ": depth read", x.about(3), depth);
                } else {
                    DUE.keeps(IllegalArgumentException.class, what, x, y -> y.make(1, 1, kind, depth, false));
                }
            }
        }
        for (int depth = 0; depth < 256; depth++) {
            boolean some = depth == 1 || depth == 2 || depth == 4 || depth == 8 || depth == 16;
            for (int kind = 0; kind < 9; kind++) {
                if (!Reference.has(kind, depth)) {
                    DUE.faulty("kind " + kind + ", depth " + depth, Files.of(1, 1, kind, depth, 0).ended(),
                        9, some ? 25 : 24);
                }
            }
        }
    }

    private static void samplesOfAPoint() {
        DUE.sentence("one sample a point (grey) .. three samples .. one sample .. two samples .. four");
        int[] channels = {1, 0, 3, 1, 2, 0, 4};
        for (int[] pair : Reference.KINDS) {
            PictureFile x = made(2, 2, pair[0], pair[1], false);
            int n = channels[pair[0]];
            for (int c = 0; c < n; c++) {
                DUE.same("sample " + c, x.sample(1, 1, c), 0);
            }
            for (int c : new int[] {-1, n, n + 1, MIN, MAX}) {
                DUE.keeps(IndexOutOfBoundsException.class, "sample " + c, x, y -> y.sample(1, 1, c));
            }
            DUE.same("raw bytes", x.about(8), rawBytes(2, 2, n * pair[1]));
        }
    }

    private static void colours() {
        DUE.sentence("It may have COLOURS (kinds 2, 3, 6: at most 256");
        for (int kind : new int[] {2, 6}) {
            PictureFile x = made(1, 1, kind, 8, false);
            DUE.same("none at first", x.about(5), 0);
            for (int n = 1; n <= 256; n++) {
                DUE.same("colour " + n, x.colour(n, n, n), n);
            }
            DUE.keeps(UnsupportedOperationException.class, "colour 257", x, y -> y.colour(1, 1, 1));
            byte[] packed = Reference.plainPacked(new byte[1 + State.channels(kind)]);
            DUE.good("no colours", Files.of(1, 1, kind, 8, 0).piece("IDAT", packed).ended());
            for (int n : new int[] {1, 2, 255, 256}) {
                x = DUE.good(n + " colours", Files.of(1, 1, kind, 8, 0).piece("PLTE", new byte[3 * n])
                    .piece("IDAT", packed).ended());
                DUE.same("how many", x.about(5), n);
            }
            DUE.faulty("257 colours", Files.of(1, 1, kind, 8, 0).piece("PLTE", new byte[771])
                .piece("IDAT", packed).ended(), 8, 33);
        }
        for (int kind : new int[] {0, 4}) {
            PictureFile x = made(1, 1, kind, 8, false);
            DUE.keeps(IllegalArgumentException.class, "kind " + kind, x, y -> y.colour(1, 1, 1));
            DUE.faulty("kind " + kind, Files.of(1, 1, kind, 8, 0).piece("PLTE", new byte[3]).ended(), 6, 37);
        }
    }

    private static void coloursOfKindThree() {
        DUE.sentence("kind 3 has some, at most 2 to the depth");
        byte[] packed = Reference.plainPacked(new byte[2]);
        for (int depth = 1; depth <= 8; depth *= 2) {
            int most = 1 << depth;
            PictureFile x = made(1, 1, 3, depth, false);
            DUE.same("one at first", x.about(5), 1);
            for (int n = 2; n <= most; n++) {
                DUE.same("colour " + n, x.colour(n, n, n), n);
            }
            DUE.keeps(UnsupportedOperationException.class, "one more than " + most, x, y -> y.colour(1, 1, 1));
            for (int n : new int[] {1, most - 1, most}) {
                x = DUE.good(n + " colours", Files.of(1, 1, 3, depth, 0).piece("PLTE", new byte[3 * n])
                    .piece("IDAT", packed).ended());
                DUE.same("how many", x.about(5), n);
            }
            DUE.faulty("no colours", Files.of(1, 1, 3, depth, 0).piece("IDAT", packed).ended(), 6, 37);
            DUE.faulty("0 colours", Files.of(1, 1, 3, depth, 0).piece("PLTE").ended(), 8, 33);
            DUE.faulty("one more than " + most, Files.of(1, 1, 3, depth, 0).piece("PLTE", new byte[3 * most + 3])
                .piece("IDAT", packed).ended(), 8, 33);
        }
    }

    private static void coloursAreBytes() {
        DUE.sentence("each of three bytes");
        PictureFile x = made(1, 1, 2, 16, false);
        int[] values = {0, 255, 256, -1, 128, MIN, MAX, MIN + 7, -256};
        for (int k = 0; k < values.length; k += 3) {
            x.colour(values[k], values[k + 1], values[k + 2]);
        }
        for (int k = 0; k < values.length; k++) {
            DUE.same("byte " + k, x.ofColour(k / 3, k % 3), values[k] & 255);
        }
        x.write(false);
        x.read();
        for (int k = 0; k < values.length; k++) {
            DUE.same("byte " + k + " again", x.ofColour(k / 3, k % 3), values[k] & 255);
        }
    }

    private static void thinsAreSamples() {
        DUE.sentence("It may have THIN numbers: kind 0 one, kind 2 three (samples)");
        PictureFile x = made(1, 1, 0, 8, false);
        DUE.same("none at first", x.about(6), 0);
        DUE.same("kind 0", x.thin(255, 255, 255), 1);
        DUE.same("kind 0 again", x.thin(0, 0, 0), 1);
        x.make(1, 1, 2, 8, false);
        DUE.same("none at first", x.about(6), 0);
        DUE.same("kind 2", x.thin(255, 0, 255), 3);
        DUE.same("kind 2 again", x.thin(0, 255, 0), 3);
        for (int kind : new int[] {4, 6}) {
            PictureFile none = made(1, 1, kind, 8, false);
            DUE.keeps(IllegalArgumentException.class, "kind " + kind, none, y -> y.thin(0, 0, 0));
        }
        x = DUE.good("kind 0", Files.of(1, 1, 0, 8, 0).piece("tRNS", Files.row(0, 255))
            .piece("IDAT", Reference.plainPacked(new byte[2])).ended());
        DUE.same("how many", x.about(6), 1);
        DUE.same("the number", x.ofThin(0), 255);
        x = DUE.good("kind 2", Files.of(1, 1, 2, 8, 0).piece("tRNS", Files.row(0, 1, 0, 255, 0, 3))
            .piece("IDAT", Reference.plainPacked(new byte[4])).ended());
        DUE.same("how many", x.about(6), 3);
        DUE.same("the second", x.ofThin(1), 255);
        DUE.same("the third", x.ofThin(2), 3);
    }

    private static void thinsOfFirstColours() {
        DUE.sentence("kind 3 one byte for each of its first colours, at most as many as there are");
        for (int colours : new int[] {1, 2, 3, 255, 256}) {
            PictureFile x = made(1, 1, 3, 8, false);
            for (int n = 2; n <= colours; n++) {
                x.colour(n, n, n);
            }
            for (int n = 1; n <= colours; n++) {
                DUE.same("thin " + n, x.thin(n % 3 == 0 ? 255 : 0, MIN, MAX), n);
            }
            DUE.keeps(UnsupportedOperationException.class, "one more than " + colours, x, y -> y.thin(0, 0, 0));
            for (int n : new int[] {1, colours - 1, colours}) {
                if (n > 0) {
                    x = DUE.good(n + " of " + colours, withThins(colours, n));
                    DUE.same("how many", x.about(6), n);
                }
            }
            DUE.faulty("none of " + colours, withThins(colours, 0), 8, 33 + 12 + 3 * colours);
            DUE.faulty("one more than " + colours, withThins(colours, colours + 1), 8, 33 + 12 + 3 * colours);
        }
    }

    private static byte[] withThins(int colours, int thins) {
        return Files.of(1, 1, 3, 8, 0).piece("PLTE", new byte[3 * colours]).piece("tRNS", new byte[thins])
            .piece("IDAT", Reference.plainPacked(new byte[2])).ended();
    }

    private static void plainRows() {
        DUE.sentence("when it is not laced: from the top, all points from the left");
        read("grey", file(3, 2, 0, 8, false, 0, 1, 2, 3, 0, 4, 5, 6), 1, 2, 3, 4, 5, 6);
        read("two samples", file(2, 2, 4, 8, false, 0, 1, 2, 3, 4, 0, 5, 6, 7, 8), 1, 2, 3, 4, 5, 6, 7, 8);
        DUE.same("rows of the largest", made(64, 64, 6, 16, false).about(7), 64);
        DUE.same("rows of the smallest", made(1, 1, 0, 1, false).about(7), 1);
    }

    /** Raw bytes in which each point's number says when it comes. */
    private static void passes() {
        DUE.sentence("Laced, seven PASSES, one behind the other .. each row of a pass is a row");
        int[] order = {
            1, 36, 18, 37, 2, 38, 19, 39,
            52, 53, 54, 55, 56, 57, 58, 59,
            10, 40, 11, 41, 12, 42, 13, 43,
            60, 61, 62, 63, 64, 65, 66, 67,
            3, 44, 20, 45, 4, 46, 21, 47,
            68, 69, 70, 71, 72, 73, 74, 75,
            14, 48, 15, 49, 16, 50, 17, 51,
            76, 77, 78, 79, 80, 81, 82, 83};
        int[] raw = new int[64 + 15];
        int[] rows = {1, 1, 2, 2, 2, 4, 4, 4, 4, 4, 4, 8, 8, 8, 8};
        int[] firsts = {1, 2, 3, 18, 20, 10, 14, 36, 40, 44, 48, 52, 60, 68, 76};
        int at = 0;
        for (int k = 0; k < rows.length; k++) {
            at++;
            for (int i = 0; i < rows[k]; i++) {
                raw[at] = firsts[k] + i;
                at++;
            }
        }
        DUE.same("raw bytes", at, raw.length);
        read("8 by 8", file(8, 8, 0, 8, true, raw), order);
        PictureFile x = made(8, 8, 0, 8, true);
        DUE.same("rows", x.about(7), 15);
        DUE.same("raw bytes", x.about(8), 79);
        DUE.same("rows of the largest", made(64, 64, 6, 16, true).about(7), 120);
        DUE.keeps(IndexOutOfBoundsException.class, "row 15", x, y -> y.filter(15));
    }

    private static void passesWithoutPoints() {
        DUE.sentence("where a pass has no points it has no rows");
        // Of 1, 2, 3, 4, 5 points from the left, and from the top.
        int[] wide = {1, 2, 3, 3, 4};
        int[] high = {1, 2, 3, 4, 5};
        for (int n = 1; n <= 5; n++) {
            DUE.same("rows of " + n + " by 1", made(n, 1, 0, 8, true).about(7), wide[n - 1]);
            DUE.same("rows of 1 by " + n, made(1, n, 0, 8, true).about(7), high[n - 1]);
        }
        read("1 by 1", file(1, 1, 0, 8, true, 0, 9), 9);
        read("2 by 1: passes 1, 6", file(2, 1, 0, 8, true, 0, 1, 1, 2), 1, 2);
        read("1 by 2: passes 1, 7", file(1, 2, 0, 8, true, 0, 1, 0, 2), 1, 2);
        read("3 by 1: passes 1, 4, 6", file(3, 1, 0, 8, true, 0, 1, 0, 2, 0, 3), 1, 3, 2);
        read("1 by 3: passes 1, 5, 7", file(1, 3, 0, 8, true, 0, 1, 0, 2, 0, 3), 1, 3, 2);
        read("4 by 1: passes 1, 4, 6", file(4, 1, 0, 8, true, 0, 1, 0, 2, 0, 3, 4), 1, 3, 2, 4);
        read("1 by 4: passes 1, 5, 7", file(1, 4, 0, 8, true, 0, 1, 0, 2, 0, 3, 0, 4), 1, 3, 2, 4);
        read("5 by 1: passes 1, 2, 4, 6", file(5, 1, 0, 8, true, 0, 1, 0, 2, 0, 3, 0, 4, 5), 1, 4, 3, 5, 2);
        read("1 by 5: passes 1, 3, 5, 7", file(1, 5, 0, 8, true, 0, 1, 0, 2, 0, 3, 0, 4, 0, 5), 1, 4, 3, 5, 2);
        for (int width = 1; width < 13; width++) {
            for (int height = 1; height < 13; height++) {
                writtenLaced(width, height);
            }
        }
    }

    private static void writtenLaced(int width, int height) {
        Reference like = new Reference(width, height, 0, 8, true);
        PictureFile x = made(width, height, 0, 8, true);
        for (int k = 0; k < width * height; k++) {
            like.samples[k] = k * k % 251;
            x.set(k % width, k / width, 0, k * k % 251);
        }
        String what = width + " by " + height;
        DUE.same(what + ": rows", x.about(7), like.bestFilters().length);
        DUE.same(what + ": raw bytes", x.about(8), like.bestRaw().length);
        String samples = State.samples(x);
        int n = x.write(false);
        byte[] due = Files.of(width, height, 0, 8, 1).piece("IDAT", Reference.plainPacked(like.bestRaw())).ended();
        DUE.same(what + ": the file", Arrays.mismatch(Files.tapeOf(x, n), due), -1);
        DUE.same(what + ": read", x.read(), PictureFile.NONE);
        DUE.same(what + ": samples", State.samples(x), samples);
    }

    private static void highestBitsFirst() {
        DUE.sentence("its samples, point by point, the highest bits first, without gaps");
        read("1 bit", file(9, 1, 0, 1, false, 0, 0b10110001, 0b10000000), 1, 0, 1, 1, 0, 0, 0, 1, 1);
        read("2 bits", file(5, 1, 0, 2, false, 0, 0b00011011, 0b11000000), 0, 1, 2, 3, 3);
        read("4 bits", file(3, 1, 0, 4, false, 0, 0x5A, 0xF0), 5, 10, 15);
        read("8 bits", file(2, 1, 0, 8, false, 0, 1, 255), 1, 255);
        read("16 bits", file(2, 1, 0, 16, false, 0, 1, 2, 255, 254), 258, 65534);
        read("three of 16 bits", file(1, 1, 2, 16, false, 0, 0, 1, 255, 255, 128, 0), 1, 65535, 32768);
    }

    private static void leftBitsWhenRead() {
        DUE.sentence("bits that are left in the last byte count for nothing");
        for (int depth = 1; depth <= 4; depth *= 2) {
            for (int width = 1; width <= 8 / depth; width++) {
                int[] due = new int[width];
                int left = (1 << (8 - width * depth)) - 1;
                read("left bits of 1s", file(width, 1, 0, depth, false, 0, left), due);
                read("of numbers of colours", oneColour(width, depth, left), due);
            }
        }
        // Of a laced picture of 2 points each is in a byte of its own.
        read("laced", file(2, 1, 0, 1, true, 0, 0x7F, 0, 0xFF), 0, 1);
        // They are bytes for the guesses, as all others: 01111111 and 00000001 are 10000000.
        read("in a guess", file(1, 2, 0, 1, false, 0, 0x7F, 2, 1), 0, 1);
    }

    private static byte[] oneColour(int width, int depth, int left) {
        return Files.of(width, 1, 3, depth, 0).piece("PLTE", new byte[3])
            .piece("IDAT", Reference.plainPacked(Files.row(0, left))).ended();
    }

    private static void leftBitsWhenWritten() {
        DUE.sentence("(0 when written)");
        for (int depth = 1; depth <= 4; depth *= 2) {
            for (int width = 1; width <= 8 / depth; width++) {
                PictureFile x = DUE.good("1s everywhere", file(width, 1, 0, depth, false, 0, 255));
                x.write(false);
                int due = 255 << (8 - width * depth) & 255;
                // The filter 0 is the one of several that is the least: all have the same sum.
                DUE.same("the filter", x.byteAt(FIRST + 7), 0);
                DUE.same("the row's byte", x.byteAt(FIRST + 8), due);
            }
        }
    }

    private static void modulo() {
        DUE.sentence("each less (modulo 256) a guess of a, b, c");
        read("filter 1", file(3, 1, 0, 8, false, 1, 200, 100, 212), 200, 44, 0);
        read("filter 2", file(1, 3, 0, 8, false, 0, 255, 2, 1, 2, 255), 255, 0, 255);
        read("filter 3", file(2, 2, 0, 8, false, 0, 254, 254, 3, 200, 100), 254, 254, 71, 6);
        read("filter 4", file(2, 2, 0, 8, false, 0, 250, 250, 4, 10, 255), 250, 250, 4, 3);
        PictureFile x = made(2, 1, 0, 8, false);
        x.set(0, 0, 0, 255);
        x.set(1, 0, 0, 254);
        DUE.same("255 counts as 1, 254 as 2", x.filter(0), 1);
        x.write(false);
        DUE.same("255 less 0", x.byteAt(FIRST + 8), 255);
        DUE.same("254 less 255", x.byteAt(FIRST + 9), 255);
    }

    private static void placesBefore() {
        DUE.sentence("the byte as many places before it as a point has bytes (1, if that is less)");
        for (int depth = 1; depth <= 8; depth *= 2) {
            int points = 24 / depth;
            int[] due = new int[points];
            for (int k = 0; k < points; k++) {
                due[k] = 1;
            }
            int ones = depth == 1 ? 255 : depth == 2 ? 0x55 : depth == 4 ? 0x11 : 1;
            read("depth " + depth, file(points, 1, 0, depth, false, 1, ones, 0, 0), due);
        }
        read("2 bytes: kind 0", file(2, 1, 0, 16, false, 1, 1, 2, 0, 0), 258, 258);
        read("2 bytes: kind 4", file(2, 1, 4, 8, false, 1, 1, 2, 0, 0), 1, 2, 1, 2);
        read("3 bytes", file(2, 1, 2, 8, false, 1, 1, 2, 3, 0, 0, 0), 1, 2, 3, 1, 2, 3);
        read("4 bytes: kind 6", file(2, 1, 6, 8, false, 1, 1, 2, 3, 4, 0, 0, 0, 0), 1, 2, 3, 4, 1, 2, 3, 4);
        read("4 bytes: kind 4", file(2, 1, 4, 16, false, 1, 0, 2, 0, 4, 0, 0, 0, 0), 2, 4, 2, 4);
        read("6 bytes", file(2, 1, 2, 16, false, 1, 0, 2, 0, 4, 0, 6, 0, 0, 0, 0, 0, 0), 2, 4, 6, 2, 4, 6);
        read("8 bytes", file(2, 1, 6, 16, false, 1, 0, 2, 0, 4, 0, 6, 0, 8, 0, 0, 0, 0, 0, 0, 0, 0),
            2, 4, 6, 8, 2, 4, 6, 8);
        read("1 byte: kind 3", file(3, 1, 3, 8, false, 1, 7, 0, 0), 7, 7, 7);
    }

    private static void noneAtTheBeginning() {
        DUE.sentence("0 where there is none (at a row's beginning)");
        read("filter 1: a", file(2, 2, 0, 8, false, 0, 100, 60, 1, 5, 6), 100, 60, 5, 11);
        read("filter 2: b", file(2, 2, 0, 8, false, 0, 100, 60, 2, 5, 6), 100, 60, 105, 66);
        read("filter 3: half of b", file(2, 2, 0, 8, false, 0, 100, 60, 3, 5, 6), 100, 60, 55, 63);
        read("filter 4: b, as a and c are 0", file(2, 2, 0, 8, false, 0, 100, 60, 4, 5, 6), 100, 60, 105, 66);
        // Of points of three bytes there is none before each of the first three.
        read("three bytes, filter 1", file(1, 2, 2, 8, false, 0, 90, 80, 70, 1, 1, 2, 3), 90, 80, 70, 1, 2, 3);
        read("three bytes, filter 3", file(1, 2, 2, 8, false, 0, 90, 80, 70, 3, 1, 2, 3), 90, 80, 70, 46, 42, 38);
        read("three bytes, filter 4", file(1, 2, 2, 8, false, 0, 90, 80, 70, 4, 1, 2, 3), 90, 80, 70, 91, 82, 73);
    }

    private static void noneInTheFirstRow() {
        DUE.sentence("0 where there is none (in the first row)");
        read("filter 1", file(3, 1, 0, 8, false, 1, 5, 6, 7), 5, 11, 18);
        read("filter 2", file(3, 1, 0, 8, false, 2, 5, 6, 7), 5, 6, 7);
        read("filter 3", file(3, 1, 0, 8, false, 3, 5, 6, 7), 5, 8, 11);
        read("filter 4: a, as b and c are 0", file(3, 1, 0, 8, false, 4, 5, 6, 7), 5, 11, 18);
        for (int[] pair : Reference.KINDS) {
            int bytes = Math.max(1, State.channels(pair[0]) * pair[1] / 8);
            int[] raw = new int[1 + bytes];
            raw[1] = 0x40;
            String due = State.samples(DUE.good("filter 0", file(1, 1, pair[0], pair[1], false, raw)));
            for (int filter = 1; filter < 5; filter++) {
                raw[0] = filter;
                PictureFile x = DUE.good("filter " + filter, file(1, 1, pair[0], pair[1], false, raw));
                DUE.same("kind " + pair[0] + ", filter " + filter, State.samples(x), due);
            }
        }
    }

    private static void noneInThePass() {
        DUE.sentence("b the same one of the row above in the pass (in the first row of a pass there is none)");
        // Each of these rows is the first one of its pass, whatever is in the row before it.
        for (int filter = 2; filter < 5; filter++) {
            read("passes 1, 2, 4, 6 of one row each, filter " + filter,
                file(5, 1, 0, 8, true, 0, 100, filter, 5, filter, 6, filter, 7, 0),
                100, 7, 6, filter == 2 ? 0 : filter == 3 ? 3 : 7, 5);
        }
        read("the second row of pass 7 has one", file(1, 4, 0, 8, true, 0, 50, 0, 60, 2, 7, 2, 8), 50, 7, 60, 15);
        read("the first row of pass 7 has none", file(1, 4, 0, 8, true, 0, 50, 0, 60, 4, 7, 4, 8), 50, 7, 60, 15);
        PictureFile x = made(5, 1, 0, 8, true);
        x.fill(0, 0, 5, 1, 0, 60);
        // Rows 0, 1 and 2 are of one point: what is above would make 0s of it.
        DUE.same("row 1 is written alone", x.filter(1), 0);
        DUE.same("row 2 is written alone", x.filter(2), 0);
        DUE.same("row 3 has two points", x.filter(3), 1);
    }

    private static void half() {
        DUE.sentence("3: half of a + b, rounded down");
        read("odd", file(2, 2, 0, 8, false, 0, 1, 1, 3, 0, 0), 1, 1, 0, 0);
        read("3 and 2", file(2, 2, 0, 8, false, 0, 0, 2, 3, 3, 0), 0, 2, 3, 2);
        read("255 and 255", file(2, 2, 0, 8, false, 0, 0, 255, 3, 255, 0), 0, 255, 255, 255);
        read("255 and 254", file(2, 2, 0, 8, false, 0, 0, 254, 3, 255, 0), 0, 254, 255, 254);
    }

    /** The guess of filter 4 for these three. */
    private static void guess(int a, int b, int c, int due) {
        // The first byte of the second row has the guess c, which is above it.
        read("a " + a + ", b " + b + ", c " + c, file(2, 2, 0, 8, false, 0, c, b, 4, a - c & 255, 0), c, b, a, due);
    }

    private static void nearest() {
        DUE.sentence("4: of a, b, c the one that is nearest to a + b - c");
        guess(10, 50, 45, 10);
        guess(50, 10, 45, 10);
        guess(10, 50, 30, 30);
        guess(0, 255, 255, 0);
        guess(255, 0, 255, 0);
        guess(255, 255, 0, 255);
        guess(0, 0, 255, 0);
        guess(200, 100, 90, 200);
        guess(100, 200, 90, 200);
        guess(0, 0, 0, 0);
        guess(255, 255, 255, 255);
        guess(0, 255, 0, 255);
        guess(255, 0, 0, 255);
    }

    private static void nearestOfSeveral() {
        DUE.sentence("of a, b, c the one that is nearest .. (of several the first one)");
        // a + b - c is 90: a and c are as near to it.
        guess(80, 110, 100, 80);
        guess(120, 90, 100, 120);
        // b and c are as near to it.
        guess(110, 80, 100, 80);
        guess(90, 120, 100, 120);
        guess(2, 1, 0, 2);
        PictureFile x = made(2, 2, 0, 8, false);
        int[] samples = {100, 110, 80, 80};
        for (int k = 0; k < 4; k++) {
            x.set(k % 2, k / 2, 0, samples[k]);
        }
        // Filter 4: 80 less 100, 80 less 80: 20. Filter 1: 80, 0. Filter 2: 20, 30. Filter 3: 30, 15.
        DUE.same("when written", x.filter(1), 4);
    }
}
