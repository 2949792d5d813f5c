import java.util.Arrays;
import java.util.Random;

/** Promises 15 and 16: filter and write. */
public final class WriteTest {
    private static final Due DUE = new Due();
    private static final Random RANDOM = new Random(20261115);

    public static void main(String[] args) {
        knownFilters();
        filterOutside();
        smallestFile();
        thinAndColours();
        farCopies();
        for (int[] pair : Reference.KINDS) {
            for (int turn = 0; turn < 12; turn++) {
                compare(pair[0], pair[1], turn);
            }
        }
        DUE.finish();
    }

    private static PictureFile grey(int[]... rows) {
        PictureFile x = new PictureFile();
        x.make(rows[0].length, rows.length, 0, 8, false);
        for (int y = 0; y < rows.length; y++) {
            for (int px = 0; px < rows[y].length; px++) {
                x.set(px, y, 0, rows[y][px]);
            }
        }
        return x;
    }

    private static void knownFilters() {
        DUE.same("all 0: the least one", grey(new int[] {0, 0, 0}).filter(0), 0);
        DUE.same("alike: filter 1", grey(new int[] {9, 9, 9}).filter(0), 1);
        DUE.same("255 counts as 1", grey(new int[] {255, 255, 0}).filter(0), 0);
        DUE.same("128 counts as 128", grey(new int[] {127, 0, 128}).filter(0), 0);
        PictureFile same = grey(new int[] {9, 80, 3, 70}, new int[] {9, 80, 3, 70});
        DUE.same("the row above", same.filter(1), 2);
        // Half of 100, 150, 175 above: each byte is (a + b) / 2, and neither a nor b.
        PictureFile half = grey(new int[] {100, 200, 40, 240}, new int[] {50, 125, 82, 161});
        DUE.same("half of both", half.filter(1), 3);
        PictureFile slope = grey(new int[] {10, 40, 90, 160}, new int[] {60, 60, 90, 160});
        DUE.same("the nearest one", slope.filter(1), 4);
        // A picture changes: so does the filter.
        slope.fill(0, 1, 4, 1, 0, 0);
        DUE.same("all 0 now", slope.filter(1), 0);
    }

    private static void filterOutside() {
        PictureFile x = new PictureFile();
        x.make(5, 5, 0, 1, true);
        DUE.same("rows", x.about(7), 11);
        DUE.same("filter(10)", x.filter(10), 0);
        DUE.outside("filter(11)", () -> x.filter(11));
        DUE.outside("filter(-1)", () -> x.filter(-1));
        DUE.outside("filter(MAX)", () -> x.filter(Integer.MAX_VALUE));
        x.make(5, 5, 0, 1, false);
        DUE.outside("filter(5)", () -> x.filter(5));
    }

    private static void smallestFile() {
        PictureFile x = new PictureFile();
        x.make(1, 1, 0, 1, false);
        byte[] plain = Files.of(1, 1, 0, 1, 0)
            .piece("IDAT", Files.row(120, 1, 1, 2, 0, 253, 255, 0, 0, 0, 2, 0, 1)).ended();
        sameTape("1 by 1, plain", x, x.write(false), plain);
        byte[] packed = Bits.packed().block(1, 1).sign(0).sign(0).sign(256).sum(0, 0).all();
        sameTape("1 by 1, short", x, x.write(true), Files.of(1, 1, 0, 1, 0).piece("IDAT", packed).ended());
        x.make(3, 1, 0, 8, false);
        packed = Bits.packed().block(1, 1).sign(0).code("0000001").code("00000").sign(256).sum(0, 0, 0, 0).all();
        sameTape("a copy that goes into itself", x, x.write(true),
            Files.of(3, 1, 0, 8, 0).piece("IDAT", packed).ended());
        x.end(5);
        sameTape("a write in place of what there was", x, x.write(true),
            Files.of(3, 1, 0, 8, 0).piece("IDAT", packed).ended());
        DUE.same("fault() is the read's", x.fault(), 0);
        x.spoil(0, 0);
        x.read();
        x.write(false);
        DUE.same("fault() is the latest read's", x.fault(), 1);
    }

    private static void thinAndColours() {
        PictureFile x = new PictureFile();
        byte[] packed = Reference.plainPacked(new byte[] {0, 0, 0, 0, 0, 0, 0});
        x.make(1, 1, 2, 16, true);
        x.thin(1, 65535, 258);
        sameTape("kind 2, thin", x, x.write(false), Files.of(1, 1, 2, 16, 1)
            .piece("tRNS", Files.row(0, 1, 255, 255, 1, 2)).piece("IDAT", packed).ended());
        x.colour(7, 8, 9);
        sameTape("kind 2, thin and colours", x, x.write(false), Files.of(1, 1, 2, 16, 1)
            .piece("PLTE", Files.row(7, 8, 9))
            .piece("tRNS", Files.row(0, 1, 255, 255, 1, 2)).piece("IDAT", packed).ended());
        x.make(1, 1, 0, 16, false);
        x.thin(300, 300, 300);
        sameTape("kind 0, thin", x, x.write(false), Files.of(1, 1, 0, 16, 0)
            .piece("tRNS", Files.row(1, 44))
            .piece("IDAT", Reference.plainPacked(new byte[3])).ended());
        x.make(1, 1, 3, 2, false);
        x.colour(255, 254, 253);
        x.thin(200, 0, 0);
        sameTape("kind 3", x, x.write(false), Files.of(1, 1, 3, 2, 0)
            .piece("PLTE", Files.row(0, 0, 0, 255, 254, 253)).piece("tRNS", Files.row(200))
            .piece("IDAT", Reference.plainPacked(new byte[2])).ended());
    }

    /** A copy from the distance 32768 is let in, and none from beyond it. */
    private static void farCopies() {
        int[] lengths = new int[2];
        for (int k = 0; k < 2; k++) {
            Reference like = farApart(393 + k);
            int[] filters = like.bestFilters();
            DUE.same("the first row is not filtered", filters[0], 0);
            DUE.same("the last row is not filtered", filters[filters.length - 1], 0);
            bothWays("alike at " + (32768 + k), like);
            lengths[k] = Reference.shortPacked(like.bestRaw()).length;
        }
        DUE.that("the nearer one is copied", lengths[0] + 20 < lengths[1]);
    }

    /**
     * A picture of noise; but its first row (of 64 bytes, from the raw byte 1 on) is there again in
     * its last one (of 512, from the raw byte 32376 on), at this byte. Small bytes, by turns above and
     * below 0 from point to point, keep both rows from being filtered.
     */
    private static Reference farApart(int at) {
        Reference like = new Reference(64, 64, 6, 16, true);
        for (int k = 0; k < like.samples.length; k++) {
            like.samples[k] = RANDOM.nextInt(65536);
        }
        int[] last = new int[512];
        for (int k = 0; k < 512; k++) {
            int size = 1 + RANDOM.nextInt(3);
            last[k] = Math.floorMod(k - at, 16) < 8 ? size : 256 - size;
        }
        for (int k = 0; k < 256; k++) {
            like.samples[63 * 256 + k] = last[2 * k] << 8 | last[2 * k + 1];
        }
        for (int k = 0; k < 32; k++) {
            like.set(k / 4 * 8, 0, k % 4, last[at + 2 * k] << 8 | last[at + 2 * k + 1]);
        }
        return like;
    }

    private static void compare(int kind, int depth, int turn) {
        int width = turn == 0 ? 64 : 1 + RANDOM.nextInt(turn < 6 ? 20 : 64);
        int height = turn == 0 ? 64 : 1 + RANDOM.nextInt(turn < 6 ? 20 : 64);
        Reference like = new Reference(width, height, kind, depth, turn % 2 == 0);
        int values = 1 << depth;
        int step = 1 + RANDOM.nextInt(7);
        for (int k = 0; k < like.samples.length; k++) {
            int slow = k / like.channels % width * step + k / like.channels / width * 3;
            int value = turn % 3 == 0 ? slow : turn % 3 == 1 ? RANDOM.nextInt(values) : slow & 24;
            like.samples[k] = value % values;
        }
        bothWays("kind " + kind + ", depth " + depth + ", turn " + turn, like);
    }

    private static void bothWays(String what, Reference like) {
        PictureFile x = new PictureFile();
        x.make(like.width, like.height, like.kind, like.depth, like.laced);
        Files file = Files.of(like.width, like.height, like.kind, like.depth, like.laced ? 1 : 0);
        if (like.kind == 3) {
            byte[] colours = new byte[3 << like.depth];
            for (int k = 1; k < 1 << like.depth; k++) {
                x.colour(k, 2 * k, 3 * k);
                colours[3 * k] = (byte) k;
                colours[3 * k + 1] = (byte) (2 * k);
                colours[3 * k + 2] = (byte) (3 * k);
            }
            file.piece("PLTE", colours);
        }
        for (int y = 0; y < like.height; y++) {
            for (int px = 0; px < like.width; px++) {
                for (int c = 0; c < like.channels; c++) {
                    x.set(px, y, c, like.sample(px, y, c));
                }
            }
        }
        int[] filters = like.bestFilters();
        // Not in the order of the rows, as each answer must stand alone.
        for (int k = filters.length - 1; k >= 0; k--) {
            DUE.same(what + ": filter(" + k + ")", x.filter(k), filters[k]);
        }
        byte[] raw = like.bestRaw();
        byte[] before = file.all();
        sameTape(what + ", plain", x, x.write(false), joined(before, Reference.plainPacked(raw)));
        DUE.same(what + ", plain: read()", x.read(), PictureFile.NONE);
        sameTape(what + ", short", x, x.write(true), joined(before, Reference.shortPacked(raw)));
        DUE.same(what + ", short: read()", x.read(), PictureFile.NONE);
        for (int k = 0; k < like.samples.length; k++) {
            int point = k / like.channels;
            DUE.same(what + ", sample " + k, x.sample(point % like.width, point / like.width, k % like.channels),
                like.samples[k]);
        }
    }

    private static byte[] joined(byte[] before, byte[] packed) {
        byte[] behind = new Files().piece("IDAT", packed).ended();
        byte[] result = Arrays.copyOf(before, before.length + behind.length - 8);
        System.arraycopy(behind, 8, result, before.length, behind.length - 8);
        return result;
    }

    private static void sameTape(String what, PictureFile x, int n, byte[] want) {
        DUE.same(what + ": how many bytes", n, want.length);
        byte[] got = Files.tapeOf(x, Math.min(n, want.length));
        DUE.same(what + ": first byte that is not as due", Arrays.mismatch(got, want), -1);
        DUE.outside(what + ": a byte behind", () -> x.byteAt(n));
    }
}
