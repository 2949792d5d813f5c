import java.util.Random;

/** Promise 16, write: many pictures, beside a second, slow writer. Its edges: SectionWritingTest. */
public final class WriteTest {
    private static final Due DUE = new Due();
    private static final Random RANDOM = new Random(20261115);

    public static void main(String[] args) {
        becomesThat();
        changesNothingElse();
        noPicture();
        DUE.sentence("The picture is written, short or plain");
        for (int[] pair : Reference.KINDS) {
            for (int turn = 0; turn < 12; turn++) {
                compare(pair[0], pair[1], turn);
            }
        }
        DUE.finish();
    }

    private static void becomesThat() {
        DUE.sentence("the tape becomes that; how many bytes it has");
        PictureFile x = new PictureFile();
        x.make(3, 1, 0, 8, false);
        byte[] packed = Bits.packed().block(1, 1).sign(0).code("0000001").code("00000").sign(256).sum(0, 0, 0, 0).all();
        byte[] due = Packed.grey(3).piece("IDAT", packed).ended();
        DUE.tape("in place of an empty tape", x, x.write(true), due);
        DUE.tape("in place of itself", x, x.write(true), due);
        x.end(5);
        DUE.tape("in place of a short one", x, x.write(true), due);
        for (int k = 0; k < 30; k++) {
            x.feed(-1, -1, -1, -1, -1);
        }
        DUE.tape("in place of a long one", x, x.write(true), due);
        x.make(64, 64, 6, 16, true);
        x.write(false);
        x.make(3, 1, 0, 8, false);
        DUE.tape("in place of the longest", x, x.write(true), due);
    }

    private static void changesNothingElse() {
        DUE.sentence("write: the tape becomes that (and nothing else another one)");
        for (int[] pair : Reference.KINDS) {
            PictureFile x = new PictureFile();
            x.make(5, 4, pair[0], pair[1], true);
            x.fill(1, 1, 3, 2, 0, pair[0] == 3 ? 0 : 1);
            x.read();
            String picture = State.picture(x);
            x.write(false);
            DUE.same("the picture behind a plain one", State.picture(x), picture);
            x.write(true);
            DUE.same("the picture behind a short one", State.picture(x), picture);
            DUE.same("the fault", x.fault(), 1);
            String tape = State.tape(x);
            x.write(true);
            DUE.same("written again", State.tape(x), tape);
        }
    }

    private static void noPicture() {
        DUE.sentence("write: IllegalStateException");
        PictureFile x = new PictureFile();
        DUE.keeps(IllegalStateException.class, "short", x, y -> y.write(true));
        DUE.keeps(IllegalStateException.class, "plain", x, y -> y.write(false));
        x.feed(1, 2, 3, 4, 5);
        x.read();
        DUE.keeps(IllegalStateException.class, "short, with a tape", x, y -> y.write(true));
        DUE.keeps(IllegalStateException.class, "plain, with a tape", x, y -> y.write(false));
    }

    private static void compare(int kind, int depth, int turn) {
        int width = 1 + RANDOM.nextInt(turn < 6 ? 20 : 64);
        int height = 1 + RANDOM.nextInt(turn < 6 ? 20 : 64);
        Reference like = new Reference(width, height, kind, depth, turn % 2 == 0);
        int values = 1 << depth;
        int step = 1 + RANDOM.nextInt(7);
        for (int k = 0; k < like.samples.length; k++) {
            int slow = k / like.channels % width * step + k / like.channels / width * 3;
            int value = turn % 3 == 0 ? slow : turn % 3 == 1 ? RANDOM.nextInt(values) : slow & 24;
            like.samples[k] = value % values;
        }
        bothWays("kind " + kind + ", depth " + depth + ", turn " + turn, like);
    }

    private static void bothWays(String what, Reference like) {
        PictureFile x = new PictureFile();
        x.make(like.width, like.height, like.kind, like.depth, like.laced);
        Files file = Files.of(like.width, like.height, like.kind, like.depth, like.laced ? 1 : 0);
        if (like.kind == 3) {
            byte[] colours = new byte[3 << like.depth];
            for (int k = 1; k < 1 << like.depth; k++) {
                x.colour(k, 2 * k, 3 * k);
                colours[3 * k] = (byte) k;
                colours[3 * k + 1] = (byte) (2 * k);
                colours[3 * k + 2] = (byte) (3 * k);
            }
            file.piece("PLTE", colours);
        }
        for (int k = 0; k < like.samples.length; k++) {
            int point = k / like.channels;
            x.set(point % like.width, point / like.width, k % like.channels, like.samples[k]);
        }
        int[] filters = like.bestFilters();
        // Not in the order of the rows, as each answer must stand alone.
        for (int k = filters.length - 1; k >= 0; k--) {
            DUE.same(what + ": filter(" + k + ")", x.filter(k), filters[k]);
        }
        String picture = State.picture(x);
        byte[] raw = like.bestRaw();
        DUE.tape(what + ", plain", x, x.write(false), file.copy().piece("IDAT", Reference.plainPacked(raw)).ended());
        DUE.same(what + ", plain: read()", x.read(), PictureFile.NONE);
        DUE.same(what + ", plain: the picture", State.picture(x), picture);
        DUE.tape(what + ", short", x, x.write(true), file.copy().piece("IDAT", Reference.shortPacked(raw)).ended());
        DUE.same(what + ", short: read()", x.read(), PictureFile.NONE);
        DUE.same(what + ", short: the picture", State.picture(x), picture);
    }
}
