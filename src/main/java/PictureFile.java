import java.util.Arrays;

/**
 * Reads picture files, refuses each one at its first fault, and writes
 * pictures again. All room is made once, in the constructors: no call makes
 * an object or an array of its own.
 */
public final class PictureFile {
    public static final int NONE = -1;

    private static final int FED_AT_ONCE = 20;

    private final Tape tape;
    private final Fault firstFault;
    private final Pieces pieces;
    private final Unpacker unpacker;
    private final Rows rows;
    private final Writer writer;
    private Picture picture;
    /** A file is read into this one, so that a fault leaves the picture as it is. */
    private Picture spare;
    private boolean there;

    public PictureFile() {
        tape = new Tape();
        firstFault = new Fault();
        rows = new Rows();
        PackedBits packed = new PackedBits(tape, firstFault);
        pieces = new Pieces(tape, firstFault, packed);
        unpacker = new Unpacker(packed, firstFault, rows);
        writer = new Writer(tape, rows);
        picture = new Picture();
        spare = new Picture();
        there = false;
    }

    public int feed(int a, int b, int c, int d, int e) throws UnsupportedOperationException {
        if (tape.size > Tape.MOST - FED_AT_ONCE) {
            throw new UnsupportedOperationException();
        }
        tape.addNumber(a);
        tape.addNumber(b);
        tape.addNumber(c);
        tape.addNumber(d);
        tape.addNumber(e);
        return tape.size;
    }

    public void end(int n) throws IllegalArgumentException {
        if (n < 0 || n > tape.size) {
            throw new IllegalArgumentException();
        }
        tape.size = n;
    }

    public int read() {
        firstFault.clear();
        boolean good = pieces.walk(spare)
            && unpacker.unpack(spare.layout.total)
            && rows.restore(spare, firstFault);
        if (!good) {
            return firstFault.place;
        }
        Picture old = picture;
        picture = spare;
        spare = old;
        there = true;
        return NONE;
    }

    public int fault() {
        return firstFault.code;
    }

    public void make(int width, int height, int kind, int depth, boolean laced)
            throws IllegalArgumentException {
        if (!Picture.isSize(width) || !Picture.isSize(height) || !Picture.kindHas(kind, depth)) {
            throw new IllegalArgumentException();
        }
        picture.begin(width, height, kind, depth, laced);
        if (kind == Picture.NUMBERED) {
            picture.addColour(0, 0, 0);
        }
        there = true;
    }

    public int about(int what) throws IllegalStateException, IllegalArgumentException {
        wantPicture();
        switch (what) {
            case 0: return picture.width;
            case 1: return picture.height;
            case 2: return picture.kind;
            case 3: return picture.depth;
            case 4: return picture.laced ? 1 : 0;
            case 5: return picture.colourCount;
            case 6: return picture.thinCount;
            case 7: return picture.layout.count;
            case 8: return picture.layout.total;
            default: throw new IllegalArgumentException();
        }
    }

    public int sample(int x, int y, int c) throws IllegalStateException, IndexOutOfBoundsException {
        wantPicture();
        wantSample(x, y, c);
        return picture.samples[picture.indexOf(x, y) + c];
    }

    public void set(int x, int y, int c, int value)
            throws IllegalStateException, IndexOutOfBoundsException, IllegalArgumentException {
        wantPicture();
        wantSample(x, y, c);
        wantValue(value);
        picture.samples[picture.indexOf(x, y) + c] = value;
    }

    public void fill(int x, int y, int width, int height, int c, int value)
            throws IllegalStateException, IndexOutOfBoundsException, IllegalArgumentException {
        wantPicture();
        wantSample(x, y, c);
        // The differences cannot overflow, as x + width could.
        if (width < 1 || height < 1 || width > picture.width - x || height > picture.height - y) {
            throw new IndexOutOfBoundsException();
        }
        wantValue(value);
        for (int down = 0; down < height; down++) {
            for (int right = 0; right < width; right++) {
                picture.samples[picture.indexOf(x + right, y + down) + c] = value;
            }
        }
    }

    public int colour(int red, int green, int blue)
            throws IllegalStateException, IllegalArgumentException, UnsupportedOperationException {
        wantPicture();
        if (!Picture.mayHaveColours(picture.kind)) {
            throw new IllegalArgumentException();
        }
        if (picture.colourCount >= picture.mostColours()) {
            throw new UnsupportedOperationException();
        }
        picture.addColour(red, green, blue);
        return picture.colourCount;
    }

    public int ofColour(int k, int c) throws IllegalStateException, IndexOutOfBoundsException {
        wantPicture();
        if (k < 0 || k >= picture.colourCount || c < 0 || c > 2) {
            throw new IndexOutOfBoundsException();
        }
        return picture.colours[3 * k + c];
    }

    public int thin(int a, int b, int c)
            throws IllegalStateException, IllegalArgumentException, UnsupportedOperationException {
        wantPicture();
        if (!picture.letsThin(a, b, c)) {
            throw new IllegalArgumentException();
        }
        if (picture.kind == Picture.NUMBERED) {
            if (picture.thinCount >= picture.colourCount) {
                throw new UnsupportedOperationException();
            }
        } else {
            picture.thinCount = 0;
        }
        picture.addThin(a);
        if (picture.kind == Picture.RGB) {
            picture.addThin(b);
            picture.addThin(c);
        }
        return picture.thinCount;
    }

    public int ofThin(int k) throws IllegalStateException, IndexOutOfBoundsException {
        wantPicture();
        if (k < 0 || k >= picture.thinCount) {
            throw new IndexOutOfBoundsException();
        }
        return picture.thins[k];
    }

    public int filter(int k) throws IllegalStateException, IndexOutOfBoundsException {
        wantPicture();
        if (k < 0 || k >= picture.layout.count) {
            throw new IndexOutOfBoundsException();
        }
        if (picture.layout.up[k] > 0) {
            rows.gather(picture, k - 1);
        }
        rows.gather(picture, k);
        return rows.bestFilter(picture.layout, k);
    }

    public int write(boolean shorter) throws IllegalStateException {
        wantPicture();
        writer.writeFile(picture, shorter);
        return tape.size;
    }

    public int byteAt(int k) throws IndexOutOfBoundsException {
        wantByte(k);
        return tape.bytes[k];
    }

    public void spoil(int k, int value) throws IndexOutOfBoundsException {
        wantByte(k);
        tape.bytes[k] = value & 255;
    }

    public void mend(int k, int n) throws IndexOutOfBoundsException {
        if (k < 0 || n < 0 || (long) k + n + 4 > tape.size) {
            throw new IndexOutOfBoundsException();
        }
        tape.putNumber(k + n, tape.check(k, k + n));
    }

    private void wantPicture() {
        if (!there) {
            throw new IllegalStateException();
        }
    }

    private void wantSample(int x, int y, int c) {
        if (x < 0 || x >= picture.width || y < 0 || y >= picture.height
                || c < 0 || c >= picture.channels) {
            throw new IndexOutOfBoundsException();
        }
    }

    private void wantValue(int value) {
        if (!picture.letsValue(value)) {
            throw new IllegalArgumentException();
        }
    }

    private void wantByte(int k) {
        if (k < 0 || k >= tape.size) {
            throw new IndexOutOfBoundsException();
        }
    }

    /** The code and the place of the first fault of a read; the code is 0 while there is none. */
    private static final class Fault {
        int code;
        int place;

        void clear() {
            code = 0;
            place = NONE;
        }

        /** Answers false, so that a refusing method can return it. */
        boolean refuse(int newCode, int newPlace) {
            code = newCode;
            place = newPlace;
            return false;
        }
    }

    /** The bytes of a file, 0 .. 255 each, and the check of some of them. */
    private static final class Tape {
        static final int MOST = 65536;
        /** What a file begins with. */
        static final int[] MARK = {137, 80, 78, 71, 13, 10, 26, 10};
        /** The types of pieces, as numbers. */
        static final int IHDR = 0x49484452;
        static final int PLTE = 0x504C5445;
        static final int TRNS = 0x74524E53;
        static final int IDAT = 0x49444154;
        static final int IEND = 0x49454E44;

        private static final int TURN = 0xEDB88320;

        final int[] bytes = new int[MOST];
        int size = 0;
        /** What eight steps of the check's register do, for each lowest byte of it. */
        private final int[] turns = new int[256];

        Tape() {
            for (int k = 0; k < 256; k++) {
                turns[k] = eightSteps(k);
            }
        }

        private static int eightSteps(int register) {
            int left = register;
            for (int step = 0; step < 8; step++) {
                left = (left & 1) == 1 ? (left >>> 1) ^ TURN : left >>> 1;
            }
            return left;
        }

        void add(int value) {
            if (size < MOST) {
                bytes[size] = value & 255;
                size++;
            }
        }

        void addPair(int value) {
            add(value >> 8);
            add(value);
        }

        void addNumber(int value) {
            addPair(value >> 16);
            addPair(value);
        }

        void putNumber(int k, int value) {
            bytes[k] = value >>> 24;
            bytes[k + 1] = (value >> 16) & 255;
            bytes[k + 2] = (value >> 8) & 255;
            bytes[k + 3] = value & 255;
        }

        int pair(int k) {
            return bytes[k] << 8 | bytes[k + 1];
        }

        int number(int k) {
            return pair(k) << 16 | pair(k + 2);
        }

        int check(int from, int to) {
            int register = -1;
            for (int k = from; k < to; k++) {
                register = (register >>> 8) ^ turns[(register ^ bytes[k]) & 255];
            }
            return ~register;
        }
    }

    /** Where the rows of a picture lie among its raw bytes, and which points are in them. */
    private static final class Layout {
        /** As a laced picture of 64 by 64 points has: 8 + 8 + 8 + 16 + 16 + 32 + 32. */
        static final int MOST_ROWS = 120;
        /** The samples of 64 by 64 points of eight bytes, and a filter byte a row. */
        static final int MOST_RAW = 64 * 64 * 8 + MOST_ROWS;

        private static final int PASSES = 7;
        // Behind the seven passes stands one that takes all points: that of a picture not laced.
        private static final int[] PASS_X = {0, 4, 0, 2, 0, 1, 0, 0};
        private static final int[] PASS_Y = {0, 0, 4, 0, 2, 0, 1, 0};
        private static final int[] PASS_RIGHT = {8, 8, 4, 4, 2, 2, 1, 1};
        private static final int[] PASS_DOWN = {8, 8, 8, 4, 4, 2, 2, 1};

        int count;
        int total;
        int pointBytes;
        final int[] x = new int[MOST_ROWS];
        final int[] y = new int[MOST_ROWS];
        final int[] step = new int[MOST_ROWS];
        final int[] points = new int[MOST_ROWS];
        /** The number of the row's filter byte among the raw bytes. */
        final int[] at = new int[MOST_ROWS];
        /** How many bytes the row has behind its filter byte. */
        final int[] length = new int[MOST_ROWS];
        /** How far before a byte that of the row above in the pass is; 0: there is no such row. */
        final int[] up = new int[MOST_ROWS];

        void lay(int width, int height, int pointBits, boolean laced) {
            count = 0;
            total = 0;
            pointBytes = Math.max(1, pointBits / 8);
            int end = laced ? PASSES : PASSES + 1;
            for (int pass = laced ? 0 : PASSES; pass < end; pass++) {
                int left = PASS_X[pass];
                int right = PASS_RIGHT[pass];
                int many = left < width ? (width - left + right - 1) / right : 0;
                for (int row = PASS_Y[pass]; row < height && many > 0; row += PASS_DOWN[pass]) {
                    addRow(left, row, right, many, (many * pointBits + 7) / 8);
                    up[count - 1] = row > PASS_Y[pass] ? length[count - 1] + 1 : 0;
                }
            }
        }

        private void addRow(int left, int row, int right, int many, int bytes) {
            x[count] = left;
            y[count] = row;
            step[count] = right;
            points[count] = many;
            at[count] = total;
            length[count] = bytes;
            total += 1 + bytes;
            count++;
        }
    }

    /** A picture: its samples, colours and thin numbers. */
    private static final class Picture {
        static final int GREY = 0;
        static final int RGB = 2;
        static final int NUMBERED = 3;
        static final int GREY_COVER = 4;
        static final int RGB_COVER = 6;

        static final int MOST_COLOURS = 256;

        private static final int MOST_SIDE = 64;

        int width;
        int height;
        int kind;
        int depth;
        boolean laced;
        int channels;
        int colourCount;
        int thinCount;
        final int[] samples = new int[MOST_SIDE * MOST_SIDE * 4];
        final int[] colours = new int[3 * MOST_COLOURS];
        final int[] thins = new int[MOST_COLOURS];
        final Layout layout = new Layout();

        static boolean isSize(int side) {
            return side >= 1 && side <= MOST_SIDE;
        }

        static boolean isDepth(int depth) {
            return depth == 1 || depth == 2 || depth == 4 || depth == 8 || depth == 16;
        }

        static boolean kindHas(int kind, int depth) {
            switch (kind) {
                case GREY: return isDepth(depth);
                case NUMBERED: return isDepth(depth) && depth <= 8;
                case RGB:
                case GREY_COVER:
                case RGB_COVER: return depth == 8 || depth == 16;
                default: return false;
            }
        }

        static boolean mayHaveColours(int kind) {
            return kind == RGB || kind == NUMBERED || kind == RGB_COVER;
        }

        static boolean mayHaveThins(int kind) {
            return kind == GREY || kind == RGB || kind == NUMBERED;
        }

        private static int channelsOf(int kind) {
            switch (kind) {
                case RGB: return 3;
                case GREY_COVER: return 2;
                case RGB_COVER: return 4;
                default: return 1;
            }
        }

        /** A picture of 0s, without colours and thin numbers. */
        void begin(int newWidth, int newHeight, int newKind, int newDepth, boolean isLaced) {
            width = newWidth;
            height = newHeight;
            kind = newKind;
            depth = newDepth;
            laced = isLaced;
            channels = channelsOf(kind);
            colourCount = 0;
            thinCount = 0;
            layout.lay(width, height, channels * depth, laced);
            for (int k = 0; k < width * height * channels; k++) {
                samples[k] = 0;
            }
        }

        int indexOf(int x, int y) {
            return (y * width + x) * channels;
        }

        int mostColours() {
            return kind == NUMBERED ? 1 << depth : MOST_COLOURS;
        }

        boolean letsValue(int value) {
            return isNumber(value) && (kind != NUMBERED || value < colourCount);
        }

        boolean letsThin(int a, int b, int c) {
            switch (kind) {
                case GREY: return isNumber(a) && a == b && a == c;
                case RGB: return isNumber(a) && isNumber(b) && isNumber(c);
                case NUMBERED: return a >= 0 && a <= 255;
                default: return false;
            }
        }

        private boolean isNumber(int value) {
            return value >= 0 && value < 1 << depth;
        }

        void addColour(int red, int green, int blue) {
            if (colourCount < MOST_COLOURS) {
                colours[3 * colourCount] = red & 255;
                colours[3 * colourCount + 1] = green & 255;
                colours[3 * colourCount + 2] = blue & 255;
                colourCount++;
            }
        }

        void addThin(int value) {
            if (thinCount < MOST_COLOURS) {
                thins[thinCount] = value;
                thinCount++;
            }
        }
    }

    /** Turns samples into raw bytes and back. */
    private static final class Rows {
        private static final int FILTERS = 5;
        private static final int SUM_MODULUS = 65521;

        /** The raw bytes: filter bytes and filtered bytes. */
        final int[] raw = new int[Layout.MOST_RAW];
        /** The rows' bytes, not filtered, each at the same number as in raw. */
        private final int[] flat = new int[Layout.MOST_RAW];

        /** Samples of row k become its bytes. */
        void gather(Picture picture, int k) {
            Layout layout = picture.layout;
            int first = layout.at[k] + 1;
            for (int i = 0; i < layout.length[k]; i++) {
                flat[first + i] = 0;
            }
            int number = 0;
            for (int i = 0; i < layout.points[k]; i++) {
                int from = picture.indexOf(layout.x[k] + i * layout.step[k], layout.y[k]);
                for (int c = 0; c < picture.channels; c++) {
                    putSample(first, number, picture.depth, picture.samples[from + c]);
                    number++;
                }
            }
        }

        private void putSample(int first, int number, int depth, int value) {
            if (depth == 16) {
                flat[first + 2 * number] = value >> 8;
                flat[first + 2 * number + 1] = value & 255;
                return;
            }
            int bit = number * depth;
            flat[first + bit / 8] |= value << (8 - depth - bit % 8);
        }

        /** Bytes of row k become its samples. */
        private void scatter(Picture picture, int k) {
            Layout layout = picture.layout;
            int first = layout.at[k] + 1;
            int number = 0;
            for (int i = 0; i < layout.points[k]; i++) {
                int to = picture.indexOf(layout.x[k] + i * layout.step[k], layout.y[k]);
                for (int c = 0; c < picture.channels; c++) {
                    picture.samples[to + c] = sampleAt(first, number, picture.depth);
                    number++;
                }
            }
        }

        private int sampleAt(int first, int number, int depth) {
            if (depth == 16) {
                return flat[first + 2 * number] << 8 | flat[first + 2 * number + 1];
            }
            int bit = number * depth;
            return flat[first + bit / 8] >> (8 - depth - bit % 8) & ((1 << depth) - 1);
        }

        /** The filter for row k, which has been gathered, and so has the row above it. */
        int bestFilter(Layout layout, int k) {
            int best = 0;
            int least = cost(layout, k, 0);
            for (int filter = 1; filter < FILTERS; filter++) {
                int sum = cost(layout, k, filter);
                if (sum < least) {
                    least = sum;
                    best = filter;
                }
            }
            return best;
        }

        private int cost(Layout layout, int k, int filter) {
            int first = layout.at[k] + 1;
            int sum = 0;
            for (int i = 0; i < layout.length[k]; i++) {
                int value = (flat[first + i] - guess(layout, k, i, filter)) & 255;
                sum += value > 127 ? 256 - value : value;
            }
            return sum;
        }

        private int guess(Layout layout, int k, int i, int filter) {
            int here = layout.at[k] + 1 + i;
            int back = layout.pointBytes;
            int up = layout.up[k];
            int a = i >= back ? flat[here - back] : 0;
            int b = up > 0 ? flat[here - up] : 0;
            switch (filter) {
                case 1: return a;
                case 2: return b;
                case 3: return (a + b) / 2;
                case 4: return nearest(a, b, i >= back && up > 0 ? flat[here - up - back] : 0);
                default: return 0;
            }
        }

        private static int nearest(int a, int b, int c) {
            int fromA = Math.abs(b - c);
            int fromB = Math.abs(a - c);
            int fromC = Math.abs(a + b - 2 * c);
            if (fromA <= fromB && fromA <= fromC) {
                return a;
            }
            return fromB <= fromC ? b : c;
        }

        /** All samples become raw bytes. */
        void filterAll(Picture picture) {
            Layout layout = picture.layout;
            for (int k = 0; k < layout.count; k++) {
                gather(picture, k);
                int filter = bestFilter(layout, k);
                int first = layout.at[k] + 1;
                raw[first - 1] = filter;
                for (int i = 0; i < layout.length[k]; i++) {
                    raw[first + i] = (flat[first + i] - guess(layout, k, i, filter)) & 255;
                }
            }
        }

        /** The sum of the first n raw bytes. */
        int sumOf(int n) {
            int s = 1;
            int t = 0;
            for (int k = 0; k < n; k++) {
                s = (s + raw[k]) % SUM_MODULUS;
                t = (t + s) % SUM_MODULUS;
            }
            return t << 16 | s;
        }

        /** The raw bytes become samples, or are refused. */
        boolean restore(Picture picture, Fault fault) {
            Layout layout = picture.layout;
            for (int k = 0; k < layout.count; k++) {
                if (raw[layout.at[k]] >= FILTERS) {
                    return fault.refuse(30, layout.at[k]);
                }
            }
            for (int k = 0; k < layout.count; k++) {
                int first = layout.at[k] + 1;
                int filter = raw[first - 1];
                for (int i = 0; i < layout.length[k]; i++) {
                    flat[first + i] = (raw[first + i] + guess(layout, k, i, filter)) & 255;
                }
                scatter(picture, k);
            }
            return picture.kind != Picture.NUMBERED || allColoursThere(picture, fault);
        }

        private static boolean allColoursThere(Picture picture, Fault fault) {
            for (int point = 0; point < picture.width * picture.height; point++) {
                if (picture.samples[point] >= picture.colourCount) {
                    return fault.refuse(31, point);
                }
            }
            return true;
        }
    }

    /** Goes through the pieces of the tape. */
    private static final class Pieces {
        /** No type of four letters is 0. */
        private static final int NO_TYPE = 0;

        private final Tape tape;
        private final Fault fault;
        private final PackedBits packed;
        private Picture into;
        private int before;
        private boolean hadColours;
        private boolean hadThins;
        private boolean hadData;

        Pieces(Tape tape, Fault fault, PackedBits packed) {
            this.tape = tape;
            this.fault = fault;
            this.packed = packed;
        }

        /** Finds header, colours, thin numbers and packed bytes, or refuses the file. */
        boolean walk(Picture picture) {
            into = picture;
            before = NO_TYPE;
            hadColours = false;
            hadThins = false;
            hadData = false;
            packed.clear();
            for (int k = 0; k < Tape.MARK.length; k++) {
                if (k >= tape.size || tape.bytes[k] != Tape.MARK[k]) {
                    return fault.refuse(1, k);
                }
            }
            int at = Tape.MARK.length;
            // A piece has twelve bytes at least, so there are fewer of them than bytes.
            for (int k = 0; k < Tape.MOST && before != Tape.IEND; k++) {
                if (!isWhole(at) || !isFit(at)) {
                    return false;
                }
                before = tape.number(at + 4);
                at += 12 + tape.number(at);
            }
            return at >= tape.size || fault.refuse(11, at);
        }

        /** Whether the piece is there as a piece, whatever it says. */
        private boolean isWhole(int at) {
            if (at + 8 > tape.size) {
                return fault.refuse(2, tape.size);
            }
            int length = tape.number(at);
            if (length < 0) {
                return fault.refuse(3, at);
            }
            for (int k = at + 4; k < at + 8; k++) {
                if (!isLetter(tape.bytes[k])) {
                    return fault.refuse(4, k);
                }
            }
            if (length > tape.size - at - 12) {
                return fault.refuse(2, tape.size);
            }
            int end = at + 8 + length;
            return tape.number(end) == tape.check(at + 4, end) || fault.refuse(5, end);
        }

        private static boolean isLetter(int value) {
            return value >= 'A' && value <= 'Z' || value >= 'a' && value <= 'z';
        }

        /** Whether a whole piece stands where it may and says what it may; it is taken. */
        private boolean isFit(int at) {
            int type = tape.number(at + 4);
            int length = tape.number(at);
            if (!mayStand(type)) {
                return fault.refuse(6, at + 4);
            }
            switch (type) {
                case Tape.IHDR: return takeHeader(at, length);
                case Tape.PLTE: return takeColours(at, length);
                case Tape.TRNS: return takeThins(at, length);
                case Tape.IDAT: return takeData(at, length);
                case Tape.IEND: return length == 0 || fault.refuse(8, at);
                default: return tape.bytes[at + 4] >= 'a' || fault.refuse(7, at + 4);
            }
        }

        private boolean mayStand(int type) {
            if (before == NO_TYPE || type == Tape.IHDR) {
                return before == NO_TYPE && type == Tape.IHDR;
            }
            boolean lacksColours = into.kind == Picture.NUMBERED && !hadColours;
            switch (type) {
                case Tape.PLTE:
                    return Picture.mayHaveColours(into.kind)
                        && !hadColours && !hadThins && !hadData;
                case Tape.TRNS:
                    return Picture.mayHaveThins(into.kind)
                        && !lacksColours && !hadThins && !hadData;
                case Tape.IDAT:
                    return !lacksColours && (!hadData || before == Tape.IDAT);
                case Tape.IEND:
                    return hadData;
                default:
                    return true;
            }
        }

        private boolean takeHeader(int at, int length) {
            if (length != 13) {
                return fault.refuse(8, at);
            }
            int from = at + 8;
            int wrong = wrongInHeader(from);
            if (wrong != NONE) {
                return fault.refuse(9, from + wrong);
            }
            into.begin(tape.number(from), tape.number(from + 4), tape.bytes[from + 9],
                tape.bytes[from + 8], tape.bytes[from + 12] == 1);
            return true;
        }

        private int wrongInHeader(int from) {
            if (!Picture.isSize(tape.number(from))) {
                return 0;
            }
            if (!Picture.isSize(tape.number(from + 4))) {
                return 4;
            }
            if (!Picture.isDepth(tape.bytes[from + 8])) {
                return 8;
            }
            if (!Picture.kindHas(tape.bytes[from + 9], tape.bytes[from + 8])) {
                return 9;
            }
            if (tape.bytes[from + 10] != 0) {
                return 10;
            }
            if (tape.bytes[from + 11] != 0) {
                return 11;
            }
            return tape.bytes[from + 12] > 1 ? 12 : NONE;
        }

        private boolean takeColours(int at, int length) {
            if (length < 3 || length % 3 != 0 || length / 3 > into.mostColours()) {
                return fault.refuse(8, at);
            }
            for (int k = at + 8; k < at + 8 + length; k += 3) {
                into.addColour(tape.bytes[k], tape.bytes[k + 1], tape.bytes[k + 2]);
            }
            hadColours = true;
            return true;
        }

        private boolean takeThins(int at, int length) {
            hadThins = true;
            int from = at + 8;
            if (into.kind == Picture.NUMBERED) {
                if (length < 1 || length > into.colourCount) {
                    return fault.refuse(8, at);
                }
                for (int k = 0; k < length; k++) {
                    into.addThin(tape.bytes[from + k]);
                }
                return true;
            }
            if (length != 2 * into.channels) {
                return fault.refuse(8, at);
            }
            for (int k = from; k < from + length; k += 2) {
                if (tape.pair(k) >= 1 << into.depth) {
                    return fault.refuse(10, k);
                }
                into.addThin(tape.pair(k));
            }
            return true;
        }

        private boolean takeData(int at, int length) {
            packed.append(at + 8, length);
            hadData = true;
            return true;
        }
    }

    /** The bytes of all pieces IDAT, read as bits. */
    private static final class PackedBits {
        private final Tape tape;
        private final Fault fault;
        /** The places of the bytes on the tape. */
        private final int[] where = new int[Tape.MOST];
        private int count;
        /** The place of the check of the last piece. */
        private int check;
        /** The number of the next bit. */
        int next;

        PackedBits(Tape tape, Fault fault) {
            this.tape = tape;
            this.fault = fault;
        }

        void clear() {
            count = 0;
            check = 0;
            next = 0;
        }

        void append(int from, int length) {
            for (int k = 0; k < length && count < Tape.MOST; k++) {
                where[count] = from + k;
                count++;
            }
            check = from + length;
        }

        boolean isAtEnd() {
            return next >= 8 * count;
        }

        /** The place of a bit; where there is none any more it would be at the check. */
        int placeOf(int bit) {
            return bit < 8 * count ? where[bit / 8] : check;
        }

        /** A number of n bits, or NONE, and a fault, where they are not all there. */
        int number(int n) {
            if (next + n > 8 * count) {
                fault.code = 20;
                fault.place = check;
                return NONE;
            }
            int value = 0;
            for (int k = 0; k < n; k++) {
                value |= (tape.bytes[where[next / 8]] >> (next % 8) & 1) << k;
                next++;
            }
            return value;
        }

        /** What the next code stands for, or NONE, and a fault. */
        int meaning(Codes codes) {
            int first = next;
            int code = 0;
            int lowest = 0;
            int passed = 0;
            for (int length = 1; length <= codes.longest; length++) {
                int bit = number(1);
                if (bit == NONE) {
                    return NONE;
                }
                code = code << 1 | bit;
                lowest <<= 1;
                int many = codes.ofLength[length];
                if (code - lowest < many) {
                    return codes.meanings[passed + code - lowest];
                }
                lowest += many;
                passed += many;
            }
            fault.refuse(25, placeOf(first));
            return NONE;
        }

        void leaveByte() {
            next = (next + 7) / 8 * 8;
        }
    }

    /** Codes by lengths, and what the codes of copies stand for. */
    private static final class Codes {
        static final int LONGEST = 15;
        static final int MOST = 288;

        static final int END_SIGN = 256;
        static final int FIRST_COPY = 257;
        static final int LEAST_COPY = 3;
        static final int MOST_COPY = 258;
        /** Where the lengths of copies begin, and how many bits are behind their codes. */
        static final int[] COPY_LENGTH = {
            3, 4, 5, 6, 7, 8, 9, 10, 11, 13, 15, 17, 19, 23, 27, 31,
            35, 43, 51, 59, 67, 83, 99, 115, 131, 163, 195, 227, 258};
        static final int[] COPY_LENGTH_BITS = {
            0, 0, 0, 0, 0, 0, 0, 0, 1, 1, 1, 1, 2, 2, 2, 2,
            3, 3, 3, 3, 4, 4, 4, 4, 5, 5, 5, 5, 0};
        static final int[] DISTANCE = {
            1, 2, 3, 4, 5, 7, 9, 13, 17, 25, 33, 49, 65, 97, 129, 193, 257, 385, 513, 769,
            1025, 1537, 2049, 3073, 4097, 6145, 8193, 12289, 16385, 24577};
        static final int[] DISTANCE_BITS = {
            0, 0, 0, 0, 1, 1, 2, 2, 3, 3, 4, 4, 5, 5, 6, 6, 7, 7, 8, 8,
            9, 9, 10, 10, 11, 11, 12, 12, 13, 13};

        /** How many codes have each length; of length 0 there are none. */
        final int[] ofLength = new int[LONGEST + 1];
        /** What the codes stand for, in the order of the codes. */
        final int[] meanings = new int[MOST];
        private final int[] nextOfLength = new int[LONGEST + 1];
        int count;
        int longest;

        /** The codes for the n lengths, each 0 .. 15, from lengths[from] on. */
        void assign(int[] lengths, int from, int n) {
            Arrays.fill(ofLength, 0);
            for (int k = 0; k < n; k++) {
                ofLength[lengths[from + k]]++;
            }
            ofLength[0] = 0;
            count = 0;
            longest = 0;
            for (int length = 1; length <= LONGEST; length++) {
                nextOfLength[length] = count;
                count += ofLength[length];
                longest = ofLength[length] > 0 ? length : longest;
            }
            for (int k = 0; k < n; k++) {
                int length = lengths[from + k];
                if (length > 0) {
                    meanings[nextOfLength[length]] = k;
                    nextOfLength[length]++;
                }
            }
        }

        /** Whether all codes can be, and no other one beside them. */
        boolean isFull() {
            int free = 1 << LONGEST;
            for (int length = 1; length <= LONGEST; length++) {
                free -= ofLength[length] << (LONGEST - length);
            }
            return free == 0;
        }

        boolean isOneBit() {
            return count == 1 && ofLength[1] == 1;
        }
    }

    /** Packed bytes become raw ones. */
    private static final class Unpacker {
        private static final int MOST_BITS = 8 * Tape.MOST;
        private static final int MOST_LENGTHS = 320;
        private static final int[] ORDER = {
            16, 17, 18, 0, 8, 7, 9, 6, 10, 5, 11, 4, 12, 3, 13, 2, 14, 1, 15};

        private final PackedBits packed;
        private final Fault fault;
        private final Rows rows;
        private final int[] raw;
        private final Codes fixedSigns = new Codes();
        private final Codes fixedDistances = new Codes();
        private final Codes lengthCodes = new Codes();
        private final Codes signs = new Codes();
        private final Codes distances = new Codes();
        private final int[] lengths = new int[MOST_LENGTHS];
        private int total;
        private int done;
        private int window;

        Unpacker(PackedBits packed, Fault fault, Rows rows) {
            this.packed = packed;
            this.fault = fault;
            this.rows = rows;
            raw = rows.raw;
            for (int sign = 0; sign < 288; sign++) {
                lengths[sign] = sign < 144 ? 8 : sign < 256 ? 9 : sign < 280 ? 7 : 8;
            }
            fixedSigns.assign(lengths, 0, 288);
            for (int distance = 0; distance < 32; distance++) {
                lengths[distance] = 5;
            }
            fixedDistances.assign(lengths, 0, 32);
        }

        /** Unpacks so many raw bytes, or refuses them. */
        boolean unpack(int rawBytes) {
            total = rawBytes;
            done = 0;
            if (!takeHead()) {
                return false;
            }
            int last = 0;
            // A block has three bits at least, so there are fewer of them than bits.
            for (int k = 0; k < MOST_BITS && last == 0; k++) {
                last = packed.number(1);
                if (last == NONE || !takeBlock()) {
                    return false;
                }
            }
            return takeSum();
        }

        private boolean takeHead() {
            int first = packed.number(8);
            if (first == NONE) {
                return false;
            }
            if ((first & 15) != 8 || first >> 4 > 7) {
                return fault.refuse(21, packed.placeOf(0));
            }
            window = 1 << ((first >> 4) + 8);
            int second = packed.number(8);
            if (second == NONE) {
                return false;
            }
            boolean good = (first << 8 | second) % 31 == 0 && (second & 32) == 0;
            return good || fault.refuse(21, packed.placeOf(8));
        }

        private boolean takeBlock() {
            int at = packed.next;
            int kind = packed.number(2);
            switch (kind) {
                case NONE: return false;
                case 0: return takePlain();
                case 1: return takeSigns(fixedSigns, fixedDistances);
                case 2: return takeCodes() && takeSigns(signs, distances);
                default: return fault.refuse(22, packed.placeOf(at));
            }
        }

        private boolean takePlain() {
            packed.leaveByte();
            int size = packed.number(16);
            if (size == NONE) {
                return false;
            }
            int at = packed.next;
            int turned = packed.number(16);
            if (turned == NONE) {
                return false;
            }
            if ((size ^ turned) != 0xFFFF) {
                return fault.refuse(23, packed.placeOf(at));
            }
            for (int k = 0; k < size; k++) {
                at = packed.next;
                int value = packed.number(8);
                if (value == NONE || !putByte(value, at)) {
                    return false;
                }
            }
            return true;
        }

        private boolean putByte(int value, int at) {
            if (done >= total) {
                return fault.refuse(26, packed.placeOf(at));
            }
            raw[done] = value;
            done++;
            return true;
        }

        /** The codes of a block of kind 2. */
        private boolean takeCodes() {
            int at = packed.next;
            int signCount = packed.number(5);
            if (signCount == NONE) {
                return false;
            }
            signCount += 257;
            if (signCount > 286) {
                return fault.refuse(24, packed.placeOf(at));
            }
            at = packed.next;
            int distanceCount = packed.number(5);
            if (distanceCount == NONE) {
                return false;
            }
            distanceCount += 1;
            if (distanceCount > 30) {
                return fault.refuse(24, packed.placeOf(at));
            }
            if (!takeLengthCodes() || !takeLengths(signCount + distanceCount)) {
                return false;
            }
            signs.assign(lengths, 0, signCount);
            distances.assign(lengths, signCount, distanceCount);
            boolean good = signs.isFull() && lengths[Codes.END_SIGN] > 0
                && (distances.isFull() || distances.isOneBit() || distances.count == 0);
            return good || fault.refuse(24, packed.placeOf(packed.next));
        }

        private boolean takeLengthCodes() {
            int many = packed.number(4);
            if (many == NONE) {
                return false;
            }
            int at = packed.next;
            Arrays.fill(lengths, 0);
            for (int k = 0; k < many + 4; k++) {
                int length = packed.number(3);
                if (length == NONE) {
                    return false;
                }
                lengths[ORDER[k]] = length;
            }
            lengthCodes.assign(lengths, 0, ORDER.length);
            return lengthCodes.isFull() || fault.refuse(24, packed.placeOf(at));
        }

        /** The lengths of signs and distances, n in all. */
        private boolean takeLengths(int n) {
            int had = 0;
            for (int turn = 0; turn < n && had < n; turn++) {
                int at = packed.next;
                int code = packed.meaning(lengthCodes);
                if (code == NONE) {
                    return false;
                }
                int more = packed.number(code < 16 ? 0 : code == 16 ? 2 : code == 17 ? 3 : 7);
                if (more == NONE) {
                    return false;
                }
                int many = code < 16 ? 1 : code == 18 ? 11 + more : 3 + more;
                if (many > n - had || code == 16 && had == 0) {
                    return fault.refuse(24, packed.placeOf(at));
                }
                int length = code < 16 ? code : code == 16 ? lengths[had - 1] : 0;
                for (int k = 0; k < many; k++) {
                    lengths[had] = length;
                    had++;
                }
            }
            return true;
        }

        private boolean takeSigns(Codes signCodes, Codes distanceCodes) {
            // A sign has one bit at least, so there are never more of them than bits.
            for (int k = 0; k < MOST_BITS; k++) {
                int at = packed.next;
                int sign = packed.meaning(signCodes);
                if (sign == NONE) {
                    return false;
                }
                if (sign == Codes.END_SIGN) {
                    return true;
                }
                boolean good = sign < Codes.END_SIGN
                    ? putByte(sign, at) : takeCopy(sign, at, distanceCodes);
                if (!good) {
                    return false;
                }
            }
            return fault.refuse(20, packed.placeOf(MOST_BITS));
        }

        private boolean takeCopy(int sign, int at, Codes distanceCodes) {
            int k = sign - Codes.FIRST_COPY;
            if (k >= Codes.COPY_LENGTH.length) {
                return fault.refuse(25, packed.placeOf(at));
            }
            int more = packed.number(Codes.COPY_LENGTH_BITS[k]);
            if (more == NONE) {
                return false;
            }
            int length = Codes.COPY_LENGTH[k] + more;
            int distanceAt = packed.next;
            int code = packed.meaning(distanceCodes);
            if (code == NONE) {
                return false;
            }
            if (code >= Codes.DISTANCE.length) {
                return fault.refuse(25, packed.placeOf(distanceAt));
            }
            more = packed.number(Codes.DISTANCE_BITS[code]);
            if (more == NONE) {
                return false;
            }
            int distance = Codes.DISTANCE[code] + more;
            if (distance > done || distance > window) {
                return fault.refuse(25, packed.placeOf(distanceAt));
            }
            if (length > total - done) {
                return fault.refuse(26, packed.placeOf(at));
            }
            for (int left = length; left > 0; left--) {
                raw[done] = raw[done - distance];
                done++;
            }
            return true;
        }

        private boolean takeSum() {
            packed.leaveByte();
            int at = packed.next;
            if (done < total) {
                return fault.refuse(27, packed.placeOf(at));
            }
            int sum = 0;
            for (int k = 0; k < 4; k++) {
                int value = packed.number(8);
                if (value == NONE) {
                    return false;
                }
                sum = sum << 8 | value;
            }
            if (sum != rows.sumOf(total)) {
                return fault.refuse(28, packed.placeOf(at));
            }
            return packed.isAtEnd() || fault.refuse(29, packed.placeOf(packed.next));
        }
    }

    /** Raw bytes become packed ones, behind what the tape has. */
    private static final class Packer {
        private static final int MOST_PLAIN = 65535;
        private static final int FARTHEST = 32768;
        private static final int HEADS = 4096;

        private final Tape tape;
        private final int[] raw;
        /** The latest place whose three bytes have each hash, or NONE. */
        private final int[] heads = new int[HEADS];
        /** For each place the one before it with the same hash, or NONE. */
        private final int[] earlier = new int[Layout.MOST_RAW];
        private int total;
        private int bits;
        private int bitCount;
        private int bestLength;
        private int bestDistance;

        Packer(Tape tape, int[] raw) {
            this.tape = tape;
            this.raw = raw;
        }

        /** Blocks of kind 0 with so many raw bytes. */
        void packPlain(int rawBytes) {
            total = rawBytes;
            for (int from = 0; from < total; from += MOST_PLAIN) {
                int size = Math.min(MOST_PLAIN, total - from);
                tape.add(from + size == total ? 1 : 0);
                tape.add(size);
                tape.add(size >> 8);
                tape.add(~size);
                tape.add(~size >> 8);
                for (int k = from; k < from + size; k++) {
                    tape.add(raw[k]);
                }
            }
        }

        /** One block of kind 1 with so many raw bytes. */
        void packShort(int rawBytes) {
            total = rawBytes;
            bits = 0;
            bitCount = 0;
            Arrays.fill(heads, NONE);
            addBits(1, 1);
            addBits(1, 2);
            int place = 0;
            for (int turn = 0; turn < total && place < total; turn++) {
                findCopy(place);
                int length = 1;
                if (bestLength >= Codes.LEAST_COPY) {
                    length = bestLength;
                    addCopy();
                } else {
                    addSign(raw[place]);
                }
                for (int k = 0; k < length; k++) {
                    remember(place);
                    place++;
                }
            }
            addSign(Codes.END_SIGN);
            if (bitCount > 0) {
                addBits(0, 8 - bitCount);
            }
        }

        private int hashAt(int place) {
            return (raw[place] << 8 ^ raw[place + 1] << 4 ^ raw[place + 2]) & (HEADS - 1);
        }

        private void remember(int place) {
            if (place + Codes.LEAST_COPY <= total) {
                int hash = hashAt(place);
                earlier[place] = heads[hash];
                heads[hash] = place;
            }
        }

        /** The longest copy at a place, the nearest of several; of length 0 if there is none. */
        private void findCopy(int place) {
            bestLength = 0;
            int most = Math.min(Codes.MOST_COPY, total - place);
            if (most < Codes.LEAST_COPY) {
                return;
            }
            int from = heads[hashAt(place)];
            int first = Math.max(0, place - FARTHEST);
            for (int turn = 0; turn < place && from >= first && bestLength < most; turn++) {
                // One that is longer than the best one must be alike at that byte.
                if (raw[from + bestLength] == raw[place + bestLength]) {
                    int length = alike(from, place, most);
                    if (length > bestLength) {
                        bestLength = length;
                        bestDistance = place - from;
                    }
                }
                from = earlier[from];
            }
        }

        private int alike(int from, int place, int most) {
            int length = 0;
            while (length < most && raw[from + length] == raw[place + length]) {
                length++;
            }
            return length;
        }

        private void addCopy() {
            int k = lastUpTo(Codes.COPY_LENGTH, bestLength);
            addSign(Codes.FIRST_COPY + k);
            addBits(bestLength - Codes.COPY_LENGTH[k], Codes.COPY_LENGTH_BITS[k]);
            int code = lastUpTo(Codes.DISTANCE, bestDistance);
            addBits(turned(code, 5), 5);
            addBits(bestDistance - Codes.DISTANCE[code], Codes.DISTANCE_BITS[code]);
        }

        private static int lastUpTo(int[] beginnings, int value) {
            int k = beginnings.length - 1;
            while (k > 0 && beginnings[k] > value) {
                k--;
            }
            return k;
        }

        private void addSign(int sign) {
            if (sign < 144) {
                addBits(turned(48 + sign, 8), 8);
            } else if (sign < 256) {
                addBits(turned(400 + sign - 144, 9), 9);
            } else if (sign < 280) {
                addBits(turned(sign - 256, 7), 7);
            } else {
                addBits(turned(192 + sign - 280, 8), 8);
            }
        }

        /** The n bits of a code the other way round: of a code the first bit goes first. */
        private static int turned(int code, int n) {
            int result = 0;
            for (int k = 0; k < n; k++) {
                result = result << 1 | code >> k & 1;
            }
            return result;
        }

        private void addBits(int value, int n) {
            bits |= value << bitCount;
            bitCount += n;
            for (int whole = bitCount / 8; whole > 0; whole--) {
                tape.add(bits);
                bits >>>= 8;
                bitCount -= 8;
            }
        }
    }

    /** Writes a picture as a file, in place of what the tape has. */
    private static final class Writer {
        private final Tape tape;
        private final Rows rows;
        private final Packer packer;
        /** The first byte of the piece that is being written. */
        private int start;

        Writer(Tape tape, Rows rows) {
            this.tape = tape;
            this.rows = rows;
            packer = new Packer(tape, rows.raw);
        }

        void writeFile(Picture picture, boolean shorter) {
            tape.size = 0;
            for (int value : Tape.MARK) {
                tape.add(value);
            }
            addHeader(picture);
            if (picture.colourCount > 0) {
                addColours(picture);
            }
            if (picture.thinCount > 0) {
                addThins(picture);
            }
            rows.filterAll(picture);
            startPiece(Tape.IDAT);
            addPacked(picture.layout.total, shorter);
            closePiece();
            startPiece(Tape.IEND);
            closePiece();
        }

        private void addPacked(int rawBytes, boolean shorter) {
            tape.add(120);
            tape.add(1);
            if (shorter) {
                packer.packShort(rawBytes);
            } else {
                packer.packPlain(rawBytes);
            }
            tape.addNumber(rows.sumOf(rawBytes));
        }

        private void addHeader(Picture picture) {
            startPiece(Tape.IHDR);
            tape.addNumber(picture.width);
            tape.addNumber(picture.height);
            tape.add(picture.depth);
            tape.add(picture.kind);
            tape.add(0);
            tape.add(0);
            tape.add(picture.laced ? 1 : 0);
            closePiece();
        }

        private void addColours(Picture picture) {
            startPiece(Tape.PLTE);
            for (int k = 0; k < 3 * picture.colourCount; k++) {
                tape.add(picture.colours[k]);
            }
            closePiece();
        }

        private void addThins(Picture picture) {
            startPiece(Tape.TRNS);
            for (int k = 0; k < picture.thinCount; k++) {
                if (picture.kind == Picture.NUMBERED) {
                    tape.add(picture.thins[k]);
                } else {
                    tape.addPair(picture.thins[k]);
                }
            }
            closePiece();
        }

        /** The length is not known yet: closePiece() puts it in. */
        private void startPiece(int type) {
            start = tape.size;
            tape.addNumber(0);
            tape.addNumber(type);
        }

        private void closePiece() {
            int end = tape.size;
            tape.putNumber(start, end - start - 8);
            tape.addNumber(tape.check(start + 4, end));
        }
    }
}
