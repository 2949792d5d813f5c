import java.util.function.Consumer;

/** Promises 6 to 15: make, about, sample, set, fill, colour, ofColour, thin, ofThin, filter. */
public final class PictureTest {
    private static final Due DUE = new Due();
    private static final int MIN = Integer.MIN_VALUE;
    private static final int MAX = Integer.MAX_VALUE;

    public static void main(String[] args) {
        make();
        makeIsNew();
        makeRefused();
        about();
        aboutRefused();
        sample();
        sampleRefused();
        set();
        setRefused();
        setColours();
        fill();
        fillOutside();
        fillRefused();
        colour();
        colourRefused();
        ofColour();
        thinOfGrey();
        thinOfRgb();
        thinOfColours();
        thinRefused();
        thinFull();
        ofThin();
        filter();
        DUE.finish();
    }

    private static PictureFile made(int width, int height, int kind, int depth) {
        PictureFile x = new PictureFile();
        x.make(width, height, kind, depth, false);
        return x;
    }

    private static void outside(String what, PictureFile x, Consumer<PictureFile> call) {
        DUE.keeps(IndexOutOfBoundsException.class, what, x, call);
    }

    private static void notLet(String what, PictureFile x, Consumer<PictureFile> call) {
        DUE.keeps(IllegalArgumentException.class, what, x, call);
    }

    private static void tooMany(String what, PictureFile x, Consumer<PictureFile> call) {
        DUE.keeps(UnsupportedOperationException.class, what, x, call);
    }

    private static void make() {
        DUE.sentence("A new picture, all samples 0, without colours (but kind 3: one, of 0s) and thin numbers.");
        for (int[] pair : Reference.KINDS) {
            for (boolean laced : new boolean[] {false, true}) {
                PictureFile x = new PictureFile();
                x.make(3, 2, pair[0], pair[1], laced);
                int[] due = {3, 2, pair[0], pair[1], laced ? 1 : 0, pair[0] == 3 ? 1 : 0, 0};
                for (int what = 0; what < due.length; what++) {
                    DUE.same("about(" + what + ")", x.about(what), due[what]);
                }
                DUE.same("samples", State.samples(x), "0 ".repeat(6 * State.channels(pair[0])));
                for (int c = 0; c < 3 && pair[0] == 3; c++) {
                    DUE.same("the colour", x.ofColour(0, c), 0);
                }
            }
        }
    }

    private static void makeIsNew() {
        DUE.sentence("A new picture (nothing is left of the one there was)");
        PictureFile x = made(64, 64, 6, 16);
        for (int c = 0; c < 4; c++) {
            x.fill(0, 0, 64, 64, c, 65535);
        }
        x.colour(1, 2, 3);
        x.make(5, 4, 2, 16, true);
        DUE.same("samples", State.samples(x), "0 ".repeat(60));
        x.thin(7, 8, 9);
        x.fill(0, 0, 5, 4, 1, 9);
        x.make(64, 64, 3, 8, true);
        DUE.same("samples", State.samples(x), "0 ".repeat(4096));
        DUE.same("one colour", x.about(5), 1);
        DUE.same("no thin numbers", x.about(6), 0);
        for (int c = 0; c < 3; c++) {
            DUE.same("it is of 0s", x.ofColour(0, c), 0);
        }
        x.colour(4, 5, 6);
        x.thin(9, 9, 9);
        x.make(64, 64, 6, 16, false);
        DUE.same("no colours", x.about(5), 0);
        DUE.same("no thin numbers", x.about(6), 0);
        DUE.same("samples", State.samples(x), "0 ".repeat(16384));
        x.make(1, 1, 3, 1, false);
        DUE.same("one colour again", x.about(5), 1);
        DUE.same("it is of 0s again", x.ofColour(0, 1), 0);
        x.set(0, 0, 0, 0);
        x.make(1, 1, 3, 1, false);
        DUE.same("made twice", State.picture(x), State.picture(made(1, 1, 3, 1)));
        // Tape and fault are no matter of make().
        x.feed(1, 2, 3, 4, 5);
        x.read();
        String tape = State.tape(x);
        x.make(2, 2, 0, 8, false);
        DUE.same("the tape stays", State.tape(x), tape);
        DUE.same("the fault stays", x.fault(), 1);
    }

    private static void makeRefused() {
        DUE.sentence("make: IllegalArgumentException: there is no such picture");
        PictureFile none = new PictureFile();
        PictureFile x = made(3, 2, 2, 16);
        x.colour(1, 2, 3);
        x.thin(1, 2, 3);
        x.set(2, 1, 2, 77);
        x.feed(1, 2, 3, 4, 5);
        x.read();
        int[][] wrong = {{0, 1, 0, 8}, {65, 1, 0, 8}, {-1, 1, 0, 8}, {MIN, 1, 0, 8}, {MAX, 1, 0, 8}, {1, 0, 0, 8},
            {1, 65, 0, 8}, {1, -1, 0, 8}, {1, MIN, 0, 8}, {1, MAX, 0, 8}, {1, 1, -1, 8}, {1, 1, 1, 8}, {1, 1, 5, 8},
            {1, 1, 7, 8}, {1, 1, MIN, 8}, {1, 1, MAX, 8}, {1, 1, 0, 0}, {1, 1, 0, 3}, {1, 1, 0, 17}, {1, 1, 0, 32},
            {1, 1, 0, MIN}, {1, 1, 0, MAX}, {1, 1, 2, 4}, {1, 1, 2, 1}, {1, 1, 3, 16}, {1, 1, 4, 4}, {1, 1, 6, 4},
            {0, 0, 1, 3}, {MIN, MAX, MIN, MAX}};
        for (int[] at : wrong) {
            String what = "make(" + at[0] + ", " + at[1] + ", " + at[2] + ", " + at[3] + ")";
            notLet(what, x, y -> y.make(at[0], at[1], at[2], at[3], true));
            notLet(what, none, y -> y.make(at[0], at[1], at[2], at[3], false));
        }
    }

    private static void about() {
        DUE.sentence("Of the picture: what = 0 width, 1 height, .. 7 rows, 8 raw bytes");
        PictureFile x = new PictureFile();
        x.make(5, 9, 2, 16, true);
        x.colour(1, 1, 1);
        x.colour(1, 1, 1);
        x.thin(1, 2, 3);
        // Rows of 5 by 9, laced: 2, 2, 1, 3, 2, 5, 4; points of a row: 1, 1, 2, 1, 3, 2, 5.
        int points = 2 * 1 + 2 * 1 + 1 * 2 + 3 * 1 + 2 * 3 + 5 * 2 + 4 * 5;
        int[] due = {5, 9, 2, 16, 1, 2, 3, 19, points * 6 + 19};
        for (int what = 0; what < 9; what++) {
            DUE.same("about(" + what + ")", x.about(what), due[what]);
        }
        int[][] sizes = {{1, 1, 0, 1, 1, 1, 2}, {1, 5, 0, 1, 1, 5, 10}, {2, 1, 0, 1, 1, 2, 4}, {64, 64, 6, 16, 1, 120, 32888},
            {64, 64, 6, 16, 0, 64, 32832}, {9, 3, 0, 1, 0, 3, 9}, {8, 3, 0, 1, 0, 3, 6}, {5, 2, 3, 2, 0, 2, 6},
            {1, 1, 0, 1, 0, 1, 2}, {64, 64, 0, 1, 0, 64, 576}, {64, 64, 0, 1, 1, 120, 632}};
        for (int[] size : sizes) {
            x.make(size[0], size[1], size[2], size[3], size[4] == 1);
            DUE.same("laced", x.about(4), size[4]);
            DUE.same("rows of " + size[0] + " by " + size[1], x.about(7), size[5]);
            DUE.same("raw bytes of " + size[0] + " by " + size[1], x.about(8), size[6]);
        }
        for (int width = 1; width < 18; width++) {
            for (int height = 1; height < 18; height++) {
                Reference like = new Reference(width, height, 0, 2, true);
                x.make(width, height, 0, 2, true);
                DUE.same("rows of " + width + " by " + height, x.about(7), like.bestFilters().length);
                DUE.same("raw bytes of " + width + " by " + height, x.about(8), like.bestRaw().length);
            }
        }
    }

    private static void aboutRefused() {
        DUE.sentence("about: IllegalStateException; IllegalArgumentException: what is none of these");
        PictureFile x = made(2, 2, 3, 8);
        for (int what : new int[] {-1, 9, 10, MIN, MIN + 8, MAX, 256}) {
            notLet("about(" + what + ")", x, y -> y.about(what));
            DUE.keeps(IllegalStateException.class, "no picture", new PictureFile(), y -> y.about(what));
        }
        DUE.keeps(IllegalStateException.class, "no picture", new PictureFile(), y -> y.about(0));
        DUE.keeps(IllegalStateException.class, "no picture", new PictureFile(), y -> y.about(8));
    }

    private static void sample() {
        DUE.sentence("Sample c of a point.");
        for (int kind : new int[] {0, 2, 4, 6}) {
            PictureFile x = made(3, 4, kind, 16);
            int channels = State.channels(kind);
            StringBuilder due = new StringBuilder();
            for (int k = 0; k < 12 * channels; k++) {
                x.set(k / channels % 3, k / channels / 3, k % channels, 1000 + k);
                due.append(1000 + k).append(' ');
            }
            DUE.same("kind " + kind, State.samples(x), due.toString());
        }
        PictureFile x = made(64, 64, 6, 16);
        x.set(63, 63, 3, 65535);
        x.set(0, 0, 0, 1);
        DUE.same("the last sample of the largest", x.sample(63, 63, 3), 65535);
        DUE.same("the first one", x.sample(0, 0, 0), 1);
        DUE.same("one between", x.sample(63, 62, 3), 0);
    }

    /** Points and samples that are not there, of 4 by 3 points. */
    private static int[][] notThere(int channels) {
        return new int[][] {{-1, 0, 0}, {4, 0, 0}, {MIN, 0, 0}, {MAX, 0, 0}, {0, -1, 0}, {0, 3, 0}, {0, MIN, 0}, {0, MAX, 0},
            {0, 0, -1}, {0, 0, channels}, {0, 0, MIN}, {0, 0, MAX}, {-1, 1, channels}, {4, -1, 0}, {3, 3, 0}, {4, 2, 0},
            {MIN, MIN, MIN}, {MAX, MAX, MAX}, {0, 0, 4}, {-1, 3, 0}};
    }

    private static void sampleRefused() {
        DUE.sentence("sample: IllegalStateException; IndexOutOfBoundsException: there is no such point, sample");
        for (int kind : new int[] {0, 2, 3, 4, 6}) {
            PictureFile x = made(4, 3, kind, 8);
            int channels = State.channels(kind);
            for (int[] at : notThere(channels)) {
                String what = "sample(" + at[0] + ", " + at[1] + ", " + at[2] + ") of kind " + kind;
                outside(what, x, y -> y.sample(at[0], at[1], at[2]));
                DUE.keeps(IllegalStateException.class, what, new PictureFile(), y -> y.sample(at[0], at[1], at[2]));
            }
            DUE.same("the first", x.sample(0, 0, 0), 0);
            DUE.same("the last", x.sample(3, 2, channels - 1), 0);
        }
        DUE.keeps(IllegalStateException.class, "no picture", new PictureFile(), y -> y.sample(0, 0, 0));
    }

    private static void set() {
        DUE.sentence("Sample c of a point becomes another one. (0 .. 2 to the depth less 1)");
        for (int[] pair : Reference.KINDS) {
            PictureFile x = made(4, 3, pair[0], pair[1]);
            int channels = State.channels(pair[0]);
            int most = (1 << pair[1]) - 1;
            for (int n = 1; n <= most && pair[0] == 3; n++) {
                x.colour(0, 0, 0);
            }
            x.set(3, 2, channels - 1, most);
            DUE.same("the largest value", x.sample(3, 2, channels - 1), most);
            DUE.same("all others", State.samples(x), "0 ".repeat(12 * channels - 1) + most + " ");
            x.set(3, 2, channels - 1, 0);
            DUE.same("0 again", State.samples(x), "0 ".repeat(12 * channels));
            x.set(0, 0, 0, 1);
            DUE.same("the first", State.samples(x), "1 " + "0 ".repeat(12 * channels - 1));
            for (int value : new int[] {-1, most + 1, most + 2, -most - 1, MIN, MAX, 65536, MIN + 1}) {
                notLet("set(0, 0, 0, " + value + ") of depth " + pair[1], x, y -> y.set(0, 0, 0, value));
                notLet("fill by " + value + " of depth " + pair[1], x, y -> y.fill(0, 0, 4, 3, 0, value));
            }
        }
    }

    private static void setRefused() {
        DUE.sentence("set: IllegalStateException; IndexOutOfBoundsException; IllegalArgumentException (the one named first)");
        for (int kind : new int[] {0, 2, 3, 4, 6}) {
            PictureFile x = made(4, 3, kind, 8);
            for (int[] at : notThere(State.channels(kind))) {
                for (int value : new int[] {0, -1, 256, MIN, MAX}) {
                    String what = "set(" + at[0] + ", " + at[1] + ", " + at[2] + ", " + value + ")";
                    outside(what, x, y -> y.set(at[0], at[1], at[2], value));
                    DUE.refused(IllegalStateException.class, what, () -> NONE.set(at[0], at[1], at[2], value));
                }
            }
        }
        DUE.keeps(IllegalStateException.class, "no picture", NONE, y -> y.set(0, 0, 0, 0));
        DUE.keeps(IllegalStateException.class, "no picture", NONE, y -> y.set(0, 0, 0, -1));
    }

    /** There is no picture in it, ever. */
    private static final PictureFile NONE = new PictureFile();

    private static void setColours() {
        DUE.sentence("set: IllegalArgumentException: it is .. a colour that is not there");
        for (int depth = 1; depth <= 8; depth *= 2) {
            PictureFile x = made(2, 2, 3, depth);
            for (int colours = 1; colours <= 1 << depth; colours++) {
                int n = colours;
                x.set(1, 1, 0, n - 1);
                DUE.same("the last colour", x.sample(1, 1, 0), n - 1);
                x.fill(0, 0, 2, 2, 0, n - 1);
                DUE.same("the last colour, by fill", x.sample(0, 1, 0), n - 1);
                if (n < 6 || n > 250) {
                    notLet("colour " + n, x, y -> y.set(1, 1, 0, n));
                    notLet("colour " + n + ", by fill", x, y -> y.fill(0, 0, 1, 1, 0, n));
                    notLet("colour -1", x, y -> y.set(1, 1, 0, -1));
                }
                if (n < 1 << depth) {
                    x.colour(9, 9, 9);
                }
            }
            int beyond = 1 << depth;
            notLet("2 to the depth", x, y -> y.set(1, 1, 0, beyond));
            notLet("MAX", x, y -> y.set(1, 1, 0, MAX));
        }
        // The colours of kinds 2 and 6 are no matter of their samples.
        PictureFile x = made(1, 1, 2, 8);
        x.colour(1, 1, 1);
        x.set(0, 0, 2, 255);
        DUE.same("kind 2", x.sample(0, 0, 2), 255);
    }

    private static void fill() {
        DUE.sentence("All points from (x, y) to (x + width - 1, y + height - 1) get value in sample c.");
        int[][] places = {{0, 0, 6, 5}, {1, 2, 3, 2}, {5, 4, 1, 1}, {0, 0, 1, 1}, {0, 4, 6, 1}, {5, 0, 1, 5}, {2, 0, 4, 5},
            {0, 2, 6, 3}};
        for (int[] at : places) {
            for (int c = 0; c < 2; c++) {
                PictureFile x = made(6, 5, 4, 8);
                x.fill(at[0], at[1], at[2], at[3], c, 255);
                StringBuilder due = new StringBuilder();
                for (int k = 0; k < 60; k++) {
                    int px = k / 2 % 6;
                    int py = k / 12;
                    boolean in = px >= at[0] && px < at[0] + at[2] && py >= at[1] && py < at[1] + at[3] && k % 2 == c;
                    due.append(in ? 255 : 0).append(' ');
                }
                DUE.same("fill at " + at[0] + ", " + at[1], State.samples(x), due.toString());
            }
        }
        PictureFile x = made(64, 64, 6, 16);
        x.fill(0, 0, 64, 64, 3, 65535);
        DUE.same("the largest", State.samples(x), "0 0 0 65535 ".repeat(4096));
    }

    private static final int[][] FILL_OUTSIDE = {
        {-1, 0, 2, 2, 0}, {0, -1, 2, 2, 0}, {6, 0, 1, 1, 0}, {0, 5, 1, 1, 0}, {5, 0, 2, 1, 0}, {0, 4, 1, 2, 0}, {0, 0, 7, 1, 0},
        {0, 0, 1, 6, 0}, {0, 0, 0, 1, 0}, {0, 0, 1, 0, 0}, {2, 2, -1, 1, 0}, {2, 2, 1, -1, 0}, {6, 0, 0, 1, 0}, {0, 5, 1, 0, 0},
        {0, 0, 1, 1, 2}, {0, 0, 1, 1, -1}, {0, 0, 1, 1, MIN}, {0, 0, 1, 1, MAX}, {1, 0, MAX, 1, 0}, {0, 1, 1, MAX, 0},
        {0, 0, MIN, 1, 0}, {0, 0, 1, MIN, 0}, {MAX, 0, 1, 1, 0}, {0, MAX, 1, 1, 0}, {MAX, 0, MAX, 1, 0}, {0, MAX, 1, MAX, 0},
        {MIN, 0, 1, 1, 0}, {0, MIN, 1, 1, 0}, {MIN, 0, MIN, 1, 0}, {0, MIN, 1, MIN, 0}, {MIN, 0, MAX, 1, 0}, {-1, 0, 7, 1, 0},
        {MAX, MAX, MAX, MAX, MAX}, {MIN, MIN, MIN, MIN, MIN}, {5, 4, 2, 2, 0}, {7, 0, -1, 1, 0}};

    private static void fillOutside() {
        DUE.sentence("fill: IndexOutOfBoundsException: width or height is below 1, too");
        PictureFile x = made(6, 5, 4, 8);
        x.fill(0, 0, 6, 5, 0, 7);
        for (int[] at : FILL_OUTSIDE) {
            String what = "fill(" + at[0] + ", " + at[1] + ", " + at[2] + ", " + at[3] + ", " + at[4] + ")";
            outside(what, x, y -> y.fill(at[0], at[1], at[2], at[3], at[4], 1));
        }
    }

    private static void fillRefused() {
        DUE.sentence("fill: IllegalStateException; IndexOutOfBoundsException; IllegalArgumentException (the one named first)");
        PictureFile x = made(6, 5, 4, 8);
        for (int[] at : FILL_OUTSIDE) {
            for (int value : new int[] {-1, 256, MIN, MAX}) {
                String what = "fill(" + at[0] + ", " + at[1] + ", " + at[2] + ", " + at[3] + ", " + at[4] + ", " + value + ")";
                outside(what, x, y -> y.fill(at[0], at[1], at[2], at[3], at[4], value));
                DUE.refused(IllegalStateException.class, what,
                    () -> NONE.fill(at[0], at[1], at[2], at[3], at[4], value));
            }
        }
        for (int value : new int[] {-1, 256, MIN, MAX}) {
            notLet("fill by " + value, x, y -> y.fill(1, 1, 2, 2, 1, value));
        }
        DUE.keeps(IllegalStateException.class, "no picture", NONE, y -> y.fill(0, 0, 1, 1, 0, 0));
    }

    private static void colour() {
        DUE.sentence("A colour more, of three bytes (the lowest eight bits of each): how many there are.");
        for (int kind : new int[] {2, 3, 6}) {
            PictureFile x = made(1, 1, kind, 8);
            int first = x.about(5);
            int[] values = {0, 1, 255, 256, 257, -1, -255, MIN, MAX};
            for (int k = 0; k < values.length; k++) {
                DUE.same("colour", x.colour(values[k], values[(k + 1) % 9], values[(k + 2) % 9]), first + k + 1);
            }
            for (int k = 0; k < values.length; k++) {
                for (int c = 0; c < 3; c++) {
                    DUE.same("byte " + c + " of colour " + k, x.ofColour(first + k, c), values[(k + c) % 9] & 255);
                }
            }
            DUE.same("how many", x.about(5), first + 9);
        }
    }

    private static void colourRefused() {
        DUE.sentence("colour: IllegalArgumentException: the kind has none");
        for (int[] pair : Reference.KINDS) {
            PictureFile x = made(1, 1, pair[0], pair[1]);
            if (pair[0] == 0 || pair[0] == 4) {
                notLet("kind " + pair[0], x, y -> y.colour(0, 0, 0));
                notLet("kind " + pair[0], x, y -> y.colour(MIN, MAX, -1));
            } else {
                DUE.same("kind " + pair[0], x.colour(0, 0, 0), pair[0] == 3 ? 2 : 1);
            }
        }
        DUE.sentence("colour: UnsupportedOperationException: there are 256, or for kind 3 2 to the depth");
        for (int[] pair : new int[][] {{2, 8}, {2, 16}, {6, 8}, {6, 16}, {3, 1}, {3, 2}, {3, 4}, {3, 8}}) {
            PictureFile x = made(1, 1, pair[0], pair[1]);
            int most = pair[0] == 3 ? 1 << pair[1] : 256;
            for (int n = x.about(5) + 1; n <= most; n++) {
                DUE.same("colour", x.colour(n, n, n), n);
            }
            tooMany("one more than " + most, x, y -> y.colour(0, 0, 0));
            tooMany("one more than " + most, x, y -> y.colour(MIN, MAX, -1));
        }
        DUE.sentence("colour: IllegalStateException (the one named first)");
        DUE.keeps(IllegalStateException.class, "no picture", NONE, y -> y.colour(1, 2, 3));
    }

    private static void ofColour() {
        DUE.sentence("Byte c of colour k. IllegalStateException; IndexOutOfBoundsException.");
        PictureFile x = made(1, 1, 2, 8);
        outside("there is none", x, y -> y.ofColour(0, 0));
        x.colour(1, 2, 3);
        x.colour(4, 5, 6);
        for (int k = 0; k < 6; k++) {
            DUE.same("byte " + k, x.ofColour(k / 3, k % 3), k + 1);
        }
        int[][] wrong = {{-1, 0}, {2, 0}, {MIN, 0}, {MAX, 0}, {0, -1}, {0, 3}, {0, MIN}, {0, MAX}, {1, 3}, {1, -1}, {2, -3},
            {-1, 3}, {-1, 5}, {MIN, MIN}, {MAX, MAX}, {256, 0}};
        for (int[] at : wrong) {
            outside("ofColour(" + at[0] + ", " + at[1] + ")", x, y -> y.ofColour(at[0], at[1]));
            DUE.keeps(IllegalStateException.class, "no picture", NONE, y -> y.ofColour(at[0], at[1]));
        }
        DUE.keeps(IllegalStateException.class, "no picture", NONE, y -> y.ofColour(0, 0));
        for (int kind : new int[] {0, 4}) {
            outside("kind " + kind, made(1, 1, kind, 8), y -> y.ofColour(0, 0));
        }
        PictureFile three = made(1, 1, 3, 8);
        DUE.same("the one colour of kind 3", three.ofColour(0, 2), 0);
        outside("no other one", three, y -> y.ofColour(1, 0));
        for (int n = 1; n < 256; n++) {
            three.colour(n, n, n);
        }
        DUE.same("the last of 256", three.ofColour(255, 2), 255);
        outside("colour 256", three, y -> y.ofColour(256, 0));
    }

    private static void thinOfGrey() {
        DUE.sentence("The thin numbers become this: kind 0, all three the same");
        for (int depth = 1; depth <= 16; depth *= 2) {
            PictureFile x = made(1, 1, 0, depth);
            int most = (1 << depth) - 1;
            DUE.same("thin", x.thin(most, most, most), 1);
            DUE.same("ofThin", x.ofThin(0), most);
            DUE.same("in place of it", x.thin(0, 0, 0), 1);
            DUE.same("ofThin", x.ofThin(0), 0);
            DUE.same("how many", x.about(6), 1);
        }
    }

    private static void thinOfRgb() {
        DUE.sentence("The thin numbers become this: .. kind 2, the three");
        for (int depth = 8; depth <= 16; depth += 8) {
            PictureFile x = made(1, 1, 2, depth);
            int most = (1 << depth) - 1;
            DUE.same("thin", x.thin(most, 0, 30), 3);
            DUE.same("in place of them", x.thin(1, most, 3), 3);
            DUE.same("the first", x.ofThin(0), 1);
            DUE.same("the second", x.ofThin(1), most);
            DUE.same("the third", x.ofThin(2), 3);
            DUE.same("how many", x.about(6), 3);
        }
    }

    private static void thinOfColours() {
        DUE.sentence("The thin numbers become this: .. kind 3, one more, a, behind those there are (b and c are nothing)");
        PictureFile x = made(1, 1, 3, 2);
        DUE.same("thin", x.thin(255, MIN, MAX), 1);
        x.colour(1, 1, 1);
        x.colour(1, 1, 1);
        DUE.same("thin", x.thin(0, -1, 256), 2);
        DUE.same("thin", x.thin(7, 0, 0), 3);
        DUE.same("the first", x.ofThin(0), 255);
        DUE.same("the second", x.ofThin(1), 0);
        DUE.same("the third", x.ofThin(2), 7);
    }

    private static void thinRefused() {
        DUE.sentence("thin: IllegalArgumentException: the kind has none");
        for (int[] pair : new int[][] {{4, 8}, {4, 16}, {6, 8}, {6, 16}}) {
            notLet("kind " + pair[0], made(1, 1, pair[0], pair[1]), y -> y.thin(0, 0, 0));
        }
        DUE.sentence("thin: a number is not 0 .. 2 to the depth less 1 (of kind 3 0 .. 255)");
        for (int[] pair : Reference.KINDS) {
            if (pair[0] == 0 || pair[0] == 2) {
                numbersRefused(pair[0], pair[1]);
            } else if (pair[0] == 3) {
                PictureFile x = made(1, 1, 3, pair[1]);
                for (int value : new int[] {-1, 256, MIN, MAX, 65535}) {
                    notLet("kind 3: " + value, x, y -> y.thin(value, 0, 0));
                }
                DUE.same("255, whatever the depth is", x.thin(255, 0, 0), 1);
            }
        }
        DUE.sentence("thin: of kind 0 they are not the same");
        PictureFile x = made(1, 1, 0, 4);
        x.thin(7, 7, 7);
        int[][] wrong = {{7, 7, 8}, {7, 8, 7}, {8, 7, 7}, {0, 1, 2}, {0, 0, 15}, {7, 7, 7 + 256}, {0, 0, MIN}, {0, MIN, 0}};
        for (int[] at : wrong) {
            notLet("thin(" + at[0] + ", " + at[1] + ", " + at[2] + ")", x, y -> y.thin(at[0], at[1], at[2]));
        }
        DUE.sentence("thin: IllegalStateException (the one named first)");
        DUE.keeps(IllegalStateException.class, "no picture", NONE, y -> y.thin(-1, 0, 1));
        DUE.keeps(IllegalStateException.class, "no picture", NONE, y -> y.thin(0, 0, 0));
    }

    private static void numbersRefused(int kind, int depth) {
        PictureFile x = made(1, 1, kind, depth);
        x.thin(1, 1, 1);
        int n = 1 << depth;
        for (int value : new int[] {-1, n, n + 1, -n, MIN, MAX, 65536}) {
            String what = value + " of kind " + kind + ", depth " + depth;
            notLet(what, x, y -> y.thin(value, value, value));
            if (kind == 2) {
                notLet(what + ", the first", x, y -> y.thin(value, 0, 0));
                notLet(what + ", the second", x, y -> y.thin(0, value, 0));
                notLet(what + ", the third", x, y -> y.thin(0, 0, value));
            }
        }
    }

    private static void thinFull() {
        DUE.sentence("thin: UnsupportedOperationException: kind 3, there are as many as colours");
        PictureFile x = made(1, 1, 3, 1);
        x.thin(9, 0, 0);
        tooMany("1 of 1", x, y -> y.thin(0, 0, 0));
        tooMany("1 of 1", x, y -> y.thin(255, MIN, MAX));
        // What is named first counts first.
        notLet("256, too", x, y -> y.thin(256, 0, 0));
        notLet("-1, too", x, y -> y.thin(-1, 0, 0));
        x.colour(1, 1, 1);
        DUE.same("a colour more", x.thin(0, 1, 2), 2);
        tooMany("2 of 2", x, y -> y.thin(0, 0, 0));
        PictureFile most = made(1, 1, 3, 8);
        for (int n = 1; n < 256; n++) {
            most.colour(n, n, n);
        }
        for (int n = 1; n <= 256; n++) {
            DUE.same("thin", most.thin(n - 1, 0, 0), n);
        }
        tooMany("256 of 256", most, y -> y.thin(0, 0, 0));
        DUE.same("the last", most.ofThin(255), 255);
    }

    private static void ofThin() {
        DUE.sentence("Thin number k. IllegalStateException; IndexOutOfBoundsException.");
        for (int[] pair : new int[][] {{0, 8, 1}, {2, 8, 3}, {3, 8, 1}, {4, 8, 0}, {6, 8, 0}}) {
            PictureFile x = made(1, 1, pair[0], pair[1]);
            outside("there is none", x, y -> y.ofThin(0));
            if (pair[2] > 0) {
                x.thin(5, 5, 5);
                DUE.same("the last", x.ofThin(pair[2] - 1), 5);
            }
            for (int k : new int[] {-1, pair[2], pair[2] + 1, MIN, MAX, 256}) {
                outside("ofThin(" + k + ") of kind " + pair[0], x, y -> y.ofThin(k));
                DUE.keeps(IllegalStateException.class, "no picture", NONE, y -> y.ofThin(k));
            }
        }
        DUE.keeps(IllegalStateException.class, "no picture", NONE, y -> y.ofThin(0));
    }

    private static void filter() {
        DUE.sentence("The filter with which row k would be written. IllegalStateException; IndexOutOfBoundsException.");
        for (boolean laced : new boolean[] {false, true}) {
            PictureFile x = new PictureFile();
            x.make(5, 5, 0, 8, laced);
            int rows = laced ? 11 : 5;
            DUE.same("rows", x.about(7), rows);
            for (int k : new int[] {-1, rows, rows + 1, MIN, MAX, 120}) {
                outside("filter(" + k + ")", x, y -> y.filter(k));
                DUE.keeps(IllegalStateException.class, "no picture", NONE, y -> y.filter(k));
            }
            for (int k = 0; k < rows; k++) {
                DUE.same("all 0: filter(" + k + ")", x.filter(k), 0);
            }
            x.fill(0, 0, 5, 5, 0, 9);
            DUE.same("it changes with the picture", x.filter(rows - 1), 2);
        }
        DUE.keeps(IllegalStateException.class, "no picture", NONE, y -> y.filter(0));
        PictureFile most = new PictureFile();
        most.make(64, 64, 6, 16, true);
        DUE.same("the last row of the largest", most.filter(119), 0);
        outside("row 120", most, y -> y.filter(120));
        // It is told without a write, and asking for it writes nothing.
        most.feed(1, 2, 3, 4, 5);
        String tape = State.tape(most);
        most.filter(5);
        DUE.same("the tape stays", State.tape(most), tape);
    }
}
