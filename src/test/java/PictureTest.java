/** Promises 6 to 14: make, about, sample, set, fill, colour, ofColour, thin, ofThin. */
public final class PictureTest {
    private static final Due DUE = new Due();

    public static void main(String[] args) {
        whatCanBeMade();
        makeIsNew();
        about();
        sampleAndSet();
        setColours();
        fill();
        colour();
        ofColour();
        thinOfGrey();
        thinOfRgb();
        thinOfColours();
        DUE.finish();
    }

    private static PictureFile made(int width, int height, int kind, int depth) {
        PictureFile x = new PictureFile();
        x.make(width, height, kind, depth, false);
        return x;
    }

    private static void whatCanBeMade() {
        PictureFile x = made(3, 2, 4, 16);
        for (int kind = -1; kind < 9; kind++) {
            for (int depth = -1; depth < 34; depth++) {
                int k = kind;
                int d = depth;
                if (Reference.has(kind, depth)) {
                    x.make(3, 2, k, d, true);
                    DUE.same("kind", x.about(2), k);
                    DUE.same("depth", x.about(3), d);
                } else {
                    DUE.notLet("make of kind " + k + ", depth " + d, () -> x.make(3, 2, k, d, false));
                }
            }
        }
        x.make(64, 64, 6, 16, true);
        x.make(1, 64, 2, 8, false);
        int[] wrong = {0, -1, 65, 256, Integer.MIN_VALUE, Integer.MAX_VALUE};
        for (int size : wrong) {
            DUE.notLet("width " + size, () -> x.make(size, 1, 0, 8, false));
            DUE.notLet("height " + size, () -> x.make(1, size, 0, 8, false));
        }
        DUE.same("a call that throws changes nothing, width", x.about(0), 1);
        DUE.same("a call that throws changes nothing, height", x.about(1), 64);
        DUE.same("a call that throws changes nothing, kind", x.about(2), 2);
        PictureFile none = new PictureFile();
        DUE.notLet("make", () -> none.make(0, 1, 0, 8, false));
        DUE.lacksPicture("no picture behind it", () -> none.about(0));
    }

    private static void makeIsNew() {
        PictureFile x = made(64, 64, 6, 16);
        for (int c = 0; c < 4; c++) {
            x.fill(0, 0, 64, 64, c, 65535);
        }
        x.colour(1, 2, 3);
        x.make(5, 4, 2, 16, true);
        x.thin(7, 8, 9);
        x.fill(0, 0, 5, 4, 1, 9);
        x.make(64, 64, 3, 8, true);
        DUE.same("the first sample", x.sample(0, 0, 0), 0);
        DUE.same("one colour", x.about(5), 1);
        DUE.same("no thin numbers", x.about(6), 0);
        for (int c = 0; c < 3; c++) {
            DUE.same("it is of 0s", x.ofColour(0, c), 0);
        }
        x.colour(4, 5, 6);
        x.make(64, 64, 6, 16, false);
        DUE.same("no colours", x.about(5), 0);
        DUE.same("no thin numbers", x.about(6), 0);
        int sum = 0;
        for (int k = 0; k < 64 * 64 * 4; k++) {
            sum |= x.sample(k % 64, k / 64 % 64, k / 4096);
        }
        DUE.same("all samples", sum, 0);
        x.make(1, 1, 3, 1, false);
        DUE.same("one colour again", x.about(5), 1);
        DUE.same("it is of 0s again", x.ofColour(0, 1), 0);
        DUE.same("the tape stays empty", x.read(), 0);
    }

    private static void about() {
        PictureFile x = new PictureFile();
        x.make(5, 9, 2, 16, true);
        x.colour(1, 1, 1);
        x.colour(1, 1, 1);
        x.thin(1, 2, 3);
        // Rows of 5 by 9, laced: 2, 2, 1, 3, 2, 5, 4; points of a row: 1, 1, 2, 1, 3, 2, 5.
        int points = 2 * 1 + 2 * 1 + 1 * 2 + 3 * 1 + 2 * 3 + 5 * 2 + 4 * 5;
        int[] due = {5, 9, 2, 16, 1, 2, 3, 19, points * 6 + 19};
        DUE.same("all points", points, 45);
        for (int what = 0; what < 9; what++) {
            DUE.same("about(" + what + ")", x.about(what), due[what]);
        }
        DUE.notLet("about(-1)", () -> x.about(-1));
        DUE.notLet("about(9)", () -> x.about(9));
        DUE.notLet("about(MIN)", () -> x.about(Integer.MIN_VALUE));
        x.make(1, 1, 0, 1, true);
        DUE.same("rows", x.about(7), 1);
        DUE.same("raw bytes", x.about(8), 2);
        x.make(1, 5, 0, 1, true);
        // Of pass 1 the row 0, of pass 3 row 4, of pass 5 row 2, of pass 7 rows 1 and 3.
        DUE.same("rows", x.about(7), 5);
        x.make(2, 1, 0, 1, true);
        DUE.same("rows", x.about(7), 2);
        x.make(64, 64, 6, 16, true);
        DUE.same("rows", x.about(7), 120);
        DUE.same("raw bytes", x.about(8), 32768 + 120);
        x.make(64, 64, 6, 16, false);
        DUE.same("rows", x.about(7), 64);
        DUE.same("raw bytes", x.about(8), 32768 + 64);
        DUE.same("laced", x.about(4), 0);
        x.make(9, 3, 0, 1, false);
        DUE.same("raw bytes", x.about(8), 9);
        x.make(5, 2, 3, 2, false);
        DUE.same("raw bytes", x.about(8), 6);
        rowsOfAllSizes();
    }

    private static void rowsOfAllSizes() {
        PictureFile x = new PictureFile();
        for (int width = 1; width < 18; width++) {
            for (int height = 1; height < 18; height++) {
                Reference like = new Reference(width, height, 0, 2, true);
                x.make(width, height, 0, 2, true);
                DUE.same("rows of " + width + " by " + height, x.about(7), like.bestFilters().length);
                DUE.same("raw bytes of " + width + " by " + height, x.about(8), like.bestRaw().length);
            }
        }
    }

    private static void sampleAndSet() {
        for (int[] pair : Reference.KINDS) {
            if (pair[0] == 3) {
                continue;
            }
            PictureFile x = made(4, 3, pair[0], pair[1]);
            int channels = pair[0] == 0 ? 1 : pair[0] == 2 ? 3 : pair[0] == 4 ? 2 : 4;
            int most = (1 << pair[1]) - 1;
            x.set(3, 2, channels - 1, most);
            DUE.same("sample", x.sample(3, 2, channels - 1), most);
            DUE.same("another point", x.sample(2, 2, channels - 1), 0);
            DUE.same("another point", x.sample(3, 1, channels - 1), 0);
            if (channels > 1) {
                DUE.same("another sample", x.sample(3, 2, 0), 0);
            }
            DUE.notLet("too much", () -> x.set(3, 2, 0, most + 1));
            DUE.notLet("too little", () -> x.set(3, 2, 0, -1));
            DUE.notLet("far too much", () -> x.set(3, 2, 0, Integer.MAX_VALUE));
            int[][] outside = {{-1, 0, 0}, {4, 0, 0}, {0, -1, 0}, {0, 3, 0}, {0, 0, -1}, {0, 0, channels}};
            for (int[] at : outside) {
                DUE.outside("sample", () -> x.sample(at[0], at[1], at[2]));
                DUE.outside("set", () -> x.set(at[0], at[1], at[2], 0));
                DUE.outside("set of a wrong value", () -> x.set(at[0], at[1], at[2], -1));
            }
            DUE.same("sample behind all", x.sample(3, 2, channels - 1), most);
            x.set(3, 2, channels - 1, 0);
            DUE.same("sample again", x.sample(3, 2, channels - 1), 0);
        }
    }

    private static void setColours() {
        PictureFile x = made(2, 2, 3, 2);
        x.set(1, 1, 0, 0);
        DUE.notLet("a colour that is not there", () -> x.set(1, 1, 0, 1));
        x.colour(9, 9, 9);
        x.set(1, 1, 0, 1);
        DUE.notLet("a colour that is not there", () -> x.fill(0, 0, 1, 1, 0, 2));
        DUE.same("sample", x.sample(1, 1, 0), 1);
        DUE.same("sample", x.sample(0, 0, 0), 0);
        DUE.notLet("too little", () -> x.set(1, 1, 0, -1));
    }

    private static void fill() {
        PictureFile x = made(6, 5, 4, 8);
        x.fill(1, 2, 3, 2, 1, 255);
        for (int px = 0; px < 6; px++) {
            for (int py = 0; py < 5; py++) {
                boolean in = px >= 1 && px <= 3 && py >= 2 && py <= 3;
                DUE.same("filled at " + px + ", " + py, x.sample(px, py, 1), in ? 255 : 0);
                DUE.same("the other sample at " + px + ", " + py, x.sample(px, py, 0), 0);
            }
        }
        x.fill(0, 0, 6, 5, 0, 7);
        DUE.same("the last point", x.sample(5, 4, 0), 7);
        x.fill(5, 4, 1, 1, 0, 8);
        DUE.same("the last point alone", x.sample(5, 4, 0), 8);
        int[][] outside = {{-1, 0, 2, 2, 0}, {0, -1, 2, 2, 0}, {6, 0, 1, 1, 0}, {0, 5, 1, 1, 0},
            {5, 0, 2, 1, 0}, {0, 4, 1, 2, 0}, {0, 0, 0, 1, 0}, {0, 0, 1, 0, 0}, {2, 2, -1, 1, 0},
            {2, 2, 1, -1, 0}, {0, 0, 1, 1, 2}, {0, 0, 1, 1, -1}, {1, 0, Integer.MAX_VALUE, 1, 0},
            {0, 1, 1, Integer.MAX_VALUE, 0}, {0, 0, Integer.MIN_VALUE, 1, 0}};
        for (int[] at : outside) {
            DUE.outside("fill", () -> x.fill(at[0], at[1], at[2], at[3], at[4], 1));
            DUE.outside("fill of a wrong value", () -> x.fill(at[0], at[1], at[2], at[3], at[4], 256));
        }
        DUE.notLet("too much", () -> x.fill(0, 0, 6, 5, 0, 256));
        DUE.notLet("too little", () -> x.fill(0, 0, 6, 5, 0, -1));
        DUE.same("nothing has changed", x.sample(0, 0, 0), 7);
        DUE.same("nothing has changed", x.sample(2, 2, 0), 7);
    }

    private static void colour() {
        PictureFile x = made(1, 1, 0, 8);
        DUE.notLet("kind 0", () -> x.colour(1, 2, 3));
        x.make(1, 1, 4, 8, false);
        DUE.notLet("kind 4", () -> x.colour(1, 2, 3));
        for (int kind : new int[] {2, 6}) {
            x.make(1, 1, kind, 16, false);
            for (int n = 1; n <= 256; n++) {
                DUE.same("colour", x.colour(n, 0, 0), n);
            }
            DUE.tooMany("the colour 257", () -> x.colour(1, 2, 3));
            DUE.same("how many", x.about(5), 256);
        }
        for (int depth = 1; depth <= 8; depth *= 2) {
            x.make(1, 1, 3, depth, false);
            for (int n = 2; n <= 1 << depth; n++) {
                DUE.same("colour", x.colour(n, 0, 0), n);
            }
            DUE.tooMany("one colour more", () -> x.colour(1, 2, 3));
            DUE.same("how many", x.about(5), 1 << depth);
        }
    }

    private static void ofColour() {
        PictureFile x = made(1, 1, 2, 8);
        DUE.outside("there is none", () -> x.ofColour(0, 0));
        x.colour(1, 2, 255);
        x.colour(-1, 256, 0x1234);
        int[] due = {1, 2, 255, 255, 0, 0x34};
        for (int k = 0; k < 6; k++) {
            DUE.same("ofColour", x.ofColour(k / 3, k % 3), due[k]);
        }
        DUE.outside("colour 2", () -> x.ofColour(2, 0));
        DUE.outside("colour -1", () -> x.ofColour(-1, 0));
        DUE.outside("byte 3", () -> x.ofColour(0, 3));
        DUE.outside("byte -1", () -> x.ofColour(1, -1));
        DUE.outside("colour MAX", () -> x.ofColour(Integer.MAX_VALUE, 0));
        x.make(1, 1, 0, 8, false);
        DUE.outside("kind 0", () -> x.ofColour(0, 0));
    }

    private static void thinOfGrey() {
        PictureFile x = made(1, 1, 0, 4);
        DUE.outside("there is none", () -> x.ofThin(0));
        DUE.same("thin", x.thin(15, 15, 15), 1);
        DUE.same("ofThin", x.ofThin(0), 15);
        DUE.notLet("not the same", () -> x.thin(1, 1, 2));
        DUE.notLet("not the same", () -> x.thin(1, 2, 1));
        DUE.notLet("not the same", () -> x.thin(2, 1, 1));
        DUE.notLet("too much", () -> x.thin(16, 16, 16));
        DUE.notLet("too little", () -> x.thin(-1, -1, -1));
        DUE.same("nothing has changed", x.ofThin(0), 15);
        DUE.same("thin in place of it", x.thin(3, 3, 3), 1);
        DUE.same("ofThin", x.ofThin(0), 3);
        DUE.same("how many", x.about(6), 1);
        DUE.outside("ofThin(1)", () -> x.ofThin(1));
        DUE.outside("ofThin(-1)", () -> x.ofThin(-1));
    }

    private static void thinOfRgb() {
        PictureFile x = made(1, 1, 2, 16);
        DUE.same("thin", x.thin(65535, 0, 300), 3);
        DUE.same("ofThin", x.ofThin(0), 65535);
        DUE.same("ofThin", x.ofThin(1), 0);
        DUE.same("ofThin", x.ofThin(2), 300);
        DUE.outside("ofThin(3)", () -> x.ofThin(3));
        DUE.notLet("too much", () -> x.thin(65536, 0, 0));
        DUE.notLet("too much", () -> x.thin(0, 65536, 0));
        DUE.notLet("too little", () -> x.thin(0, 0, -1));
        DUE.same("nothing has changed", x.ofThin(2), 300);
        DUE.same("thin in place of them", x.thin(1, 2, 3), 3);
        DUE.same("ofThin", x.ofThin(2), 3);
        x.make(1, 1, 2, 8, false);
        DUE.notLet("too much for the depth", () -> x.thin(0, 0, 256));
        DUE.same("thin", x.thin(0, 0, 255), 3);
        for (int kind : new int[] {4, 6}) {
            x.make(1, 1, kind, 8, false);
            DUE.notLet("the kind has none", () -> x.thin(0, 0, 0));
            DUE.same("how many", x.about(6), 0);
            DUE.outside("ofThin(0)", () -> x.ofThin(0));
        }
    }

    private static void thinOfColours() {
        PictureFile x = made(1, 1, 3, 1);
        DUE.same("thin", x.thin(255, -7, 4711), 1);
        DUE.tooMany("as many as colours", () -> x.thin(0, 0, 0));
        DUE.notLet("too much, which counts first", () -> x.thin(256, 0, 0));
        DUE.notLet("too little, which counts first", () -> x.thin(-1, 0, 0));
        x.colour(1, 1, 1);
        DUE.notLet("too much", () -> x.thin(256, 0, 0));
        DUE.same("how many", x.about(6), 1);
        DUE.same("thin", x.thin(0, 1, 2), 2);
        DUE.same("ofThin", x.ofThin(0), 255);
        DUE.same("ofThin", x.ofThin(1), 0);
        DUE.tooMany("as many as colours", () -> x.thin(0, 0, 0));
        DUE.outside("ofThin(2)", () -> x.ofThin(2));
        DUE.outside("ofThin(MIN)", () -> x.ofThin(Integer.MIN_VALUE));
    }
}
