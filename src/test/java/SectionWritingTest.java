import java.util.Arrays;

/** The sentences of section 4, on written files, each at its edges. */
public final class SectionWritingTest {
    private static final Due DUE = new Due();

    public static void main(String[] args) {
        order();
        leastSum();
        aboveHalf();
        leastOfSeveral();
        firstBytes();
        plain();
        leastCopy();
        longestCopy();
        overlapping();
        longestNotNearest();
        nearestOfSeveral();
        fromEachPlace();
        upToTheEnd();
        distances();
        leftBits();
        smallestAndLargest();
        DUE.finish();
    }

    private static PictureFile made(int width, int height, int kind, int depth, boolean laced) {
        PictureFile x = new PictureFile();
        x.make(width, height, kind, depth, laced);
        return x;
    }

    /** A picture of grey bytes. */
    private static PictureFile grey(int[]... rows) {
        PictureFile x = made(rows[0].length, rows.length, 0, 8, false);
        for (int y = 0; y < rows.length; y++) {
            for (int px = 0; px < rows[y].length; px++) {
                x.set(px, y, 0, rows[y][px]);
            }
        }
        return x;
    }

    /** All pieces that a picture of one point can have. */
    private static void order() {
        DUE.sentence("The eight bytes, IHDR; PLTE, if there are colours; tRNS, if there are thin numbers; one IDAT, IEND.");
        byte[] zeros = Reference.plainPacked(new byte[7]);
        PictureFile x = made(1, 1, 2, 16, true);
        DUE.tape("neither", x, x.write(false), Files.of(1, 1, 2, 16, 1).piece("IDAT", zeros).ended());
        x.thin(1, 65535, 258);
        DUE.tape("tRNS", x, x.write(false), Files.of(1, 1, 2, 16, 1)
            .piece("tRNS", Files.row(0, 1, 255, 255, 1, 2)).piece("IDAT", zeros).ended());
        x.colour(7, 8, 9);
        DUE.tape("PLTE and tRNS", x, x.write(false), Files.of(1, 1, 2, 16, 1).piece("PLTE", Files.row(7, 8, 9))
            .piece("tRNS", Files.row(0, 1, 255, 255, 1, 2)).piece("IDAT", zeros).ended());
        x = made(1, 1, 6, 8, false);
        x.colour(7, 8, 9);
        x.colour(-1, -2, 256);
        DUE.tape("PLTE", x, x.write(false), Files.of(1, 1, 6, 8, 0).piece("PLTE", Files.row(7, 8, 9, 255, 254, 0))
            .piece("IDAT", Reference.plainPacked(new byte[5])).ended());
        x = made(1, 1, 0, 16, false);
        x.thin(300, 300, 300);
        DUE.tape("kind 0, thin", x, x.write(false), Files.of(1, 1, 0, 16, 0).piece("tRNS", Files.row(1, 44))
            .piece("IDAT", Reference.plainPacked(new byte[3])).ended());
        x = made(1, 1, 3, 2, false);
        DUE.tape("kind 3", x, x.write(false), Files.of(1, 1, 3, 2, 0).piece("PLTE", Files.row(0, 0, 0))
            .piece("IDAT", Reference.plainPacked(new byte[2])).ended());
        x.colour(255, 254, 253);
        x.thin(200, 0, 0);
        DUE.tape("kind 3, thin", x, x.write(false), Files.of(1, 1, 3, 2, 0).piece("PLTE", Files.row(0, 0, 0, 255, 254, 253))
            .piece("tRNS", Files.row(200)).piece("IDAT", Reference.plainPacked(new byte[2])).ended());
        x = made(1, 1, 3, 8, false);
        for (int n = 1; n < 256; n++) {
            x.colour(n, n, n);
        }
        for (int n = 0; n < 256; n++) {
            x.thin(255 - n, 0, 0);
        }
        x.write(true);
        DUE.same("as many as can be: read", x.read(), PictureFile.NONE);
        DUE.same("colours", x.about(5), 256);
        DUE.same("thin numbers", x.about(6), 256);
        DUE.same("the last colour", x.ofColour(255, 2), 255);
        DUE.same("the last thin number", x.ofThin(255), 0);
    }

    private static void leastSum() {
        DUE.sentence("Each row has the filter with the least sum of its bytes");
        DUE.same("filter 0", grey(new int[] {1, 255, 1, 255}).filter(0), 0);
        DUE.same("filter 1", grey(new int[] {9, 9, 9}).filter(0), 1);
        DUE.same("filter 2", grey(new int[] {9, 80, 3, 70}, new int[] {9, 80, 3, 70}).filter(1), 2);
        DUE.same("filter 3", grey(new int[] {100, 200, 40, 240}, new int[] {50, 125, 82, 161}).filter(1), 3);
        DUE.same("filter 4", grey(new int[] {10, 40, 90, 160}, new int[] {60, 60, 90, 160}).filter(1), 4);
        // By one less: sums of 2, 1, 2, 2, 1; and 3, 3, 3, 2, 3.
        DUE.same("by one less: 1", grey(new int[] {0, 1, 1}).filter(0), 1);
        DUE.same("by one less: 3", grey(new int[] {0, 2, 1}).filter(0), 3);
        PictureFile x = grey(new int[] {1, 255, 1, 255}, new int[] {1, 255, 1, 255});
        x.write(false);
        DUE.same("the first row's filter byte", x.byteAt(41 + 7), 0);
        DUE.same("the second row's filter byte", x.byteAt(41 + 12), 2);
        DUE.same("its bytes", x.byteAt(41 + 13), 0);
    }

    private static void aboveHalf() {
        DUE.sentence("a byte above 127 counting as 256 less it");
        // The sums of filters 0, 1, 2, 3, 4.
        DUE.same("129, 128, 129, 129, 128", grey(new int[] {0, 1, 128}).filter(0), 1);
        DUE.same("192, 192, 192, 255, 192", grey(new int[] {1, 127, 192}).filter(0), 0);
        DUE.same("193, 192, 193, 257, 192", grey(new int[] {1, 128, 192}).filter(0), 1);
        DUE.same("129, 129, 129, 129, 129", grey(new int[] {1, 1, 129}).filter(0), 0);
        DUE.same("128, 129, 128, 128, 129", grey(new int[] {0, 1, 129}).filter(0), 0);
        DUE.same("130, 131, 130, 129, 131", grey(new int[] {2, 1, 129}).filter(0), 3);
        DUE.same("191, 190, 191, 254, 190", grey(new int[] {1, 130, 192}).filter(0), 1);
        DUE.same("2, 1, 2, 129, 1", grey(new int[] {0, 255, 255}).filter(0), 1);
        DUE.same("2, 3, 2, 2, 3", grey(new int[] {0, 1, 255}).filter(0), 0);
    }

    private static void leastOfSeveral() {
        DUE.sentence("the filter with the least sum .. (of several the least one)");
        // The sums of filters 0, 1, 2, 3, 4 of the second row.
        DUE.same("0, 0, 2, 1, 2", grey(new int[] {0, 2}, new int[] {0, 0}).filter(1), 0);
        DUE.same("2, 4, 2, 3, 4", grey(new int[] {0, 0}, new int[] {2, 0}).filter(1), 0);
        DUE.same("191, 192, 192, 191, 193", grey(new int[] {1, 128}, new int[] {129, 64}).filter(1), 0);
        DUE.same("191, 192, 192, 255, 191", grey(new int[] {1, 2}, new int[] {127, 192}).filter(1), 0);
        DUE.same("191, 130, 130, 131, 192", grey(new int[] {64, 129}, new int[] {191, 126}).filter(1), 1);
        DUE.same("2, 1, 2, 1, 2", grey(new int[] {0, 2}, new int[] {1, 1}).filter(1), 1);
        DUE.same("2, 1, 2, 2, 1", grey(new int[] {0, 0}, new int[] {1, 1}).filter(1), 1);
        DUE.same("3, 3, 2, 2, 3", grey(new int[] {0, 1}, new int[] {2, 1}).filter(1), 2);
        DUE.same("1, 1, 0, 1, 0", grey(new int[] {0, 1}, new int[] {0, 1}).filter(1), 2);
        DUE.same("129, 191, 192, 127, 127", grey(new int[] {65, 0}, new int[] {192, 65}).filter(1), 3);
        DUE.same("all 0", grey(new int[] {0, 0}, new int[] {0, 0}).filter(1), 0);
    }

    private static void firstBytes() {
        DUE.sentence("Packed are: 120, 1, blocks, the sum.");
        PictureFile x = grey(new int[] {7});
        DUE.tape("plain", x, x.write(false), Packed.grey(1)
            .piece("IDAT", Files.row(120, 1, 1, 2, 0, 253, 255, 0, 7, 0, 9, 0, 8)).ended());
        DUE.tape("short", x, x.write(true), Packed.grey(1)
            .piece("IDAT", Bits.packed().block(1, 1).sign(0).sign(7).sign(256).bytes(0, 9, 0, 8).all()).ended());
    }

    private static void plain() {
        DUE.sentence("Plain: blocks of kind 0, each of 65535 raw bytes (the last one of what is left).");
        // No picture has more than 32888 raw bytes: there is one block, of all that there is.
        PictureFile x = made(64, 64, 6, 16, true);
        int n = x.write(false);
        DUE.same("how many bytes", n, 33 + 12 + 2 + 5 + 32888 + 4 + 12);
        int[] due = {1, 32888 & 255, 32888 >> 8, 255 - (32888 & 255), 255 - (32888 >> 8)};
        for (int k = 0; k < due.length; k++) {
            DUE.same("byte " + k + " of the block", x.byteAt(43 + k), due[k]);
        }
        x.make(1, 1, 0, 1, false);
        DUE.same("the smallest", x.write(false), 33 + 12 + 2 + 5 + 2 + 4 + 12);
        DUE.same("its block has 2 bytes", x.byteAt(44), 2);
    }

    /** A picture of 0s, written short: its raw bytes are all 0, too. */
    private static void zeros(int width, int height, int kind, int depth, Bits due) {
        PictureFile x = made(width, height, kind, depth, false);
        byte[] packed = due.sign(256).sum(new int[x.about(8)]).all();
        DUE.tape(x.about(8) + " raw bytes 0", x, x.write(true),
            Files.of(width, height, kind, depth, 0).piece("IDAT", packed).ended());
    }

    private static Bits start() {
        return Bits.packed().block(1, 1);
    }

    private static Bits copy(Bits bits, int length, int distance) {
        Reference.copy(bits, length, distance);
        return bits;
    }

    private static void leastCopy() {
        DUE.sentence("the longest copy (3 .. 258 ..), if there is one, else the byte: the least one");
        zeros(1, 1, 0, 8, start().sign(0).sign(0));
        zeros(2, 1, 0, 8, start().sign(0).sign(0).sign(0));
        zeros(3, 1, 0, 8, copy(start().sign(0), 3, 1));
        zeros(4, 1, 0, 8, copy(start().sign(0), 4, 1));
    }

    private static void longestCopy() {
        DUE.sentence("the longest copy (3 .. 258 ..), if there is one, else the byte: the longest one");
        zeros(64, 1, 6, 8, copy(start().sign(0), 256, 1));
        zeros(5, 43, 0, 8, copy(start().sign(0), 257, 1));
        zeros(43, 1, 2, 16, copy(start().sign(0), 258, 1));
        zeros(19, 13, 0, 8, copy(start().sign(0), 258, 1).sign(0));
        zeros(28, 9, 0, 8, copy(start().sign(0), 258, 1).sign(0).sign(0));
        zeros(33, 1, 6, 16, copy(copy(start().sign(0), 258, 1), 6, 1));
        zeros(64, 1, 6, 16, copy(copy(start().sign(0), 258, 1), 254, 1));
        Bits all = start().sign(0);
        for (int left = 32887; left > 0; left -= Math.min(258, left)) {
            copy(all, Math.min(258, left), 1);
        }
        PictureFile x = made(64, 64, 6, 16, true);
        byte[] packed = all.sign(256).sum(new int[32888]).all();
        DUE.tape("the largest one of 0s", x, x.write(true), Files.of(64, 64, 6, 16, 1).piece("IDAT", packed).ended());
    }

    /**
     * Points by pairs of small bytes, one above 0 and one below it by turns: such a row is not filtered,
     * so that its bytes are what is packed. Letters are pairs that have no byte alike.
     */
    private static int[] row(String letters) {
        int[] result = new int[1 + 2 * letters.length()];
        for (int k = 0; k < letters.length(); k++) {
            int letter = letters.charAt(k) - 'a';
            result[1 + 2 * k] = 1 + letter;
            result[2 + 2 * k] = 255 - letter;
        }
        return result;
    }

    /** A row that is written short, from its raw bytes with the filter byte 0. */
    private static void written(String what, int[] raw, Bits due) {
        PictureFile x = made(raw.length - 1, 1, 0, 8, false);
        for (int k = 1; k < raw.length; k++) {
            x.set(k - 1, 0, 0, raw[k]);
        }
        DUE.same(what + ": the filter", x.filter(0), 0);
        byte[] packed = due.sign(256).sum(raw).all();
        DUE.tape(what, x, x.write(true), Packed.grey(raw.length - 1).piece("IDAT", packed).ended());
        DUE.same(what + ": read", x.read(), PictureFile.NONE);
    }

    private static Bits signs(Bits bits, int[] raw, int from, int to) {
        for (int k = from; k < to; k++) {
            bits.sign(raw[k]);
        }
        return bits;
    }

    private static void overlapping() {
        DUE.sentence("the longest copy .. from a distance 1 .. (into its own bytes)");
        int[] raw = row("ffffff");
        written("2 bytes, six times", raw, copy(signs(start(), raw, 0, 3), 10, 2));
        raw = row("fkfkfkfk");
        written("4 bytes, four times", raw, copy(signs(start(), raw, 0, 5), 12, 4));
    }

    private static void longestNotNearest() {
        DUE.sentence("from each place the longest copy");
        // Of "fkp" there are, from the end, "fk" of four bytes at 6 and "fkp" of six at 14.
        int[] raw = row("fkpafkbfkp");
        Bits due = copy(signs(start(), raw, 0, 9), 4, 8);
        signs(due, raw, 13, 15);
        written("a longer one farther away", raw, copy(due, 6, 14));
        // And when the longer one is the nearer.
        raw = row("fkbfkpafkp");
        due = copy(signs(start(), raw, 0, 7), 4, 6);
        signs(due, raw, 11, 15);
        written("a longer one nearer", raw, copy(due, 6, 8));
    }

    private static void nearestOfSeveral() {
        DUE.sentence("the longest copy (.. of several the nearest)");
        int[] raw = row("fkafkbfk");
        Bits due = copy(signs(start(), raw, 0, 7), 4, 6);
        signs(due, raw, 11, 13);
        written("of two", raw, copy(due, 4, 6));
        raw = row("fkafkbfkcfk");
        due = copy(signs(start(), raw, 0, 7), 4, 6);
        due = copy(signs(due, raw, 11, 13), 4, 6);
        written("of three", raw, copy(signs(due, raw, 17, 19), 4, 6));
    }

    private static void fromEachPlace() {
        DUE.sentence("from each place the longest copy .. if there is one, else the byte (though the next has a longer one)");
        // At the last "f" there is "fk" of four bytes; from the "k" on there would be eight.
        int[] raw = row("fkakpcbfkpcb");
        Bits due = copy(signs(start(), raw, 0, 15), 4, 14);
        written("at once", raw, copy(due, 6, 10));
    }

    private static void upToTheEnd() {
        DUE.sentence("the longest copy .. (up to the last raw byte)");
        int[] raw = row("fkafk");
        written("it ends with the bytes", raw, copy(signs(start(), raw, 0, 7), 4, 6));
        raw = Arrays.copyOf(row("fkafk"), 10);
        written("three bytes are left", raw, copy(signs(start(), raw, 0, 7), 3, 6));
        raw = Arrays.copyOf(row("fkafk"), 9);
        written("two bytes are left", raw, signs(start(), raw, 0, 9));
    }

    private static void distances() {
        DUE.sentence("from a distance 1 .. 32768");
        zeros(3, 1, 0, 8, copy(start().sign(0), 3, 1));
        // Nothing but 0s, which is nearer, but for what the first row of pass 1 and the last row of all have alike.
        for (int at = 390; at < 396; at++) {
            Reference like = farApart(at);
            int[] filters = like.bestFilters();
            DUE.same("the first row's filter", filters[0], 0);
            DUE.same("the last row's filter", filters[119], 0);
            int distance = 32376 + at - 1;
            byte[] raw = like.bestRaw();
            for (int k = 0; k < 16; k++) {
                DUE.same("alike at " + distance, raw[1 + k + distance], raw[1 + k]);
            }
            PictureFile x = made(64, 64, 6, 16, true);
            for (int k = 0; k < like.samples.length; k++) {
                if (like.samples[k] != 0) {
                    x.set(k / 4 % 64, k / 256, k % 4, like.samples[k]);
                }
            }
            byte[] due = Files.of(64, 64, 6, 16, 1).piece("IDAT", Reference.shortPacked(raw)).ended();
            DUE.tape("alike at " + distance, x, x.write(true), due);
            DUE.same("read", x.read(), PictureFile.NONE);
            int farthest = Copies.farthest(Reference.shortPacked(raw));
            DUE.that(distance + ": the farthest copy is from " + farthest,
                distance <= 32768 ? farthest == distance : farthest < 32000);
        }
    }

    /** Sixteen bytes of the first row, in the last one again from the byte at on. */
    private static Reference farApart(int at) {
        Reference like = new Reference(64, 64, 6, 16, true);
        int[] some = {1, 2, 3, 1, 1, 2, 2, 3, 253, 255, 254, 253, 255, 253, 254, 254};
        int[] last = new int[512];
        for (int k = 0; k < 16; k++) {
            last[at + k] = some[k];
        }
        for (int k = 0; k < 256; k++) {
            like.samples[63 * 256 + k] = last[2 * k] << 8 | last[2 * k + 1];
        }
        for (int k = 0; k < 8; k++) {
            like.set(k / 4 * 8, 0, k % 4, some[2 * k] << 8 | some[2 * k + 1]);
        }
        return like;
    }

    private static void leftBits() {
        DUE.sentence("bits that are left in the last one are 0 when written");
        for (int n = 1; n < 40; n++) {
            PictureFile x = made(n, 1, 0, 8, false);
            for (int k = 0; k < n; k++) {
                // Nine bits a byte, and no copies.
                x.set(k, 0, 0, k % 2 == 0 ? 1 + k : 255 - k);
            }
            int[] raw = new int[n + 1];
            for (int k = 0; k < n; k++) {
                raw[k + 1] = k % 2 == 0 ? 1 + k : 255 - k;
            }
            if (x.filter(0) == 0) {
                byte[] packed = signs(start(), raw, 0, n + 1).sign(256).sum(raw).all();
                DUE.tape(n + " points", x, x.write(true), Packed.grey(n).piece("IDAT", packed).ended());
            }
        }
    }

    private static void smallestAndLargest() {
        DUE.sentence("the largest and the smallest picture of each kind, written plain and short and read again");
        for (int[] pair : Reference.KINDS) {
            for (int size : new int[] {1, 64}) {
                for (int laced = 0; laced < 2; laced++) {
                    for (int pattern = 0; pattern < 3; pattern++) {
                        bothWays(size, pair[0], pair[1], laced == 1, pattern);
                    }
                }
            }
        }
    }

    private static void bothWays(int size, int kind, int depth, boolean laced, int pattern) {
        String what = size + " by " + size + ", kind " + kind + ", depth " + depth + ", pattern " + pattern;
        Reference like = new Reference(size, size, kind, depth, laced);
        PictureFile x = made(size, size, kind, depth, laced);
        Files start = Files.of(size, size, kind, depth, laced ? 1 : 0);
        if (kind == 3) {
            for (int k = 1; k < 1 << depth; k++) {
                x.colour(0, 0, 0);
            }
            start.piece("PLTE", new byte[3 << depth]);
        }
        int noise = 12345;
        for (int k = 0; k < like.samples.length; k++) {
            noise = noise * 1103515245 + 12345;
            int value = pattern == 0 ? -1 : pattern == 1 ? noise >>> 16 : k / like.channels / 5;
            like.samples[k] = value & (1 << depth) - 1;
            int point = k / like.channels;
            x.set(point % size, point / size, k % like.channels, like.samples[k]);
        }
        String picture = State.picture(x);
        byte[] raw = like.bestRaw();
        for (int turn = 0; turn < 2; turn++) {
            byte[] packed = turn == 0 ? Reference.plainPacked(raw) : Reference.shortPacked(raw);
            DUE.tape(what, x, x.write(turn == 1), start.copy().piece("IDAT", packed).ended());
            DUE.same(what + ": write changes no picture", State.picture(x), picture);
            x.make(1, 1, 0, 1, false);
            DUE.same(what + ": read again", x.read(), PictureFile.NONE);
            DUE.same(what + ": the picture", State.picture(x), picture);
        }
    }
}
