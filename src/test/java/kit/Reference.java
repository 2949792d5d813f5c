import java.io.ByteArrayOutputStream;
import java.util.zip.Deflater;

/** A second, slow way from samples to raw and packed bytes, to compare with. */
final class Reference {
    private static final int[][] PASSES = {
        {0, 0, 8, 8}, {4, 0, 8, 8}, {0, 4, 4, 8}, {2, 0, 4, 4}, {0, 2, 2, 4}, {1, 0, 2, 2}, {0, 1, 1, 2}};

    final int width;
    final int height;
    final int kind;
    final int depth;
    final boolean laced;
    final int channels;
    final int[] samples;

    Reference(int width, int height, int kind, int depth, boolean laced) {
        this.width = width;
        this.height = height;
        this.kind = kind;
        this.depth = depth;
        this.laced = laced;
        channels = kind == 2 ? 3 : kind == 4 ? 2 : kind == 6 ? 4 : 1;
        samples = new int[width * height * channels];
    }

    static final int[][] KINDS = {
        {0, 1}, {0, 2}, {0, 4}, {0, 8}, {0, 16}, {2, 8}, {2, 16}, {3, 1}, {3, 2}, {3, 4}, {3, 8},
        {4, 8}, {4, 16}, {6, 8}, {6, 16}};

    static boolean has(int kind, int depth) {
        for (int[] pair : KINDS) {
            if (pair[0] == kind && pair[1] == depth) {
                return true;
            }
        }
        return false;
    }

    int sample(int x, int y, int c) {
        return samples[(y * width + x) * channels + c];
    }

    void set(int x, int y, int c, int value) {
        samples[(y * width + x) * channels + c] = value;
    }

    private int[][] passes() {
        return laced ? PASSES : new int[][] {{0, 0, 1, 1}};
    }

    /** The row's bytes: all bits as one text, cut into eights. */
    private int[] rowBytes(int[] pass, int y) {
        StringBuilder bits = new StringBuilder();
        for (int x = pass[0]; x < width; x += pass[2]) {
            for (int c = 0; c < channels; c++) {
                bits.append(Bits.binary(sample(x, y, c), depth));
            }
        }
        while (bits.length() % 8 != 0) {
            bits.append('0');
        }
        int[] result = new int[bits.length() / 8];
        for (int k = 0; k < result.length; k++) {
            result[k] = Integer.parseInt(bits.substring(8 * k, 8 * k + 8), 2);
        }
        return result;
    }

    private int[] filtered(int[] row, int[] above, int filter) {
        int back = Math.max(1, channels * depth / 8);
        int[] result = new int[row.length];
        for (int i = 0; i < row.length; i++) {
            int a = i < back ? 0 : row[i - back];
            int b = above == null ? 0 : above[i];
            int c = above == null || i < back ? 0 : above[i - back];
            int guess = 0;
            if (filter == 1) {
                guess = a;
            } else if (filter == 2) {
                guess = b;
            } else if (filter == 3) {
                guess = (a + b) >> 1;
            } else if (filter == 4) {
                int p = a + b - c;
                guess = a;
                if (Math.abs(b - p) < Math.abs(guess - p)) {
                    guess = b;
                }
                if (Math.abs(c - p) < Math.abs(guess - p)) {
                    guess = c;
                }
            }
            result[i] = Math.floorMod(row[i] - guess, 256);
        }
        return result;
    }

    private static int cost(int[] bytes) {
        int sum = 0;
        for (int value : bytes) {
            sum += Math.min(value, 256 - value);
        }
        return sum;
    }

    private int bestFilter(int[] row, int[] above) {
        int best = 0;
        for (int filter = 1; filter < 5; filter++) {
            if (cost(filtered(row, above, filter)) < cost(filtered(row, above, best))) {
                best = filter;
            }
        }
        return best;
    }

    /** The raw bytes; the filters are the best ones, or filter, filter + 1, .. one row behind the other. */
    byte[] raw(int filter) {
        ByteArrayOutputStream out = new ByteArrayOutputStream();
        int next = filter;
        for (int[] pass : passes()) {
            int[] above = null;
            for (int y = pass[1]; y < height && pass[0] < width; y += pass[3]) {
                int[] row = rowBytes(pass, y);
                int used = filter < 0 ? bestFilter(row, above) : next++ % 5;
                out.write(used);
                out.writeBytes(Files.row(filtered(row, above, used)));
                above = row;
            }
        }
        return out.toByteArray();
    }

    byte[] bestRaw() {
        return raw(-1);
    }

    /** The filters of the rows, from raw bytes with the best ones. */
    int[] bestFilters() {
        int[] result = new int[200];
        int n = 0;
        for (int[] pass : passes()) {
            int[] above = null;
            for (int y = pass[1]; y < height && pass[0] < width; y += pass[3]) {
                int[] row = rowBytes(pass, y);
                result[n++] = bestFilter(row, above);
                above = row;
            }
        }
        return java.util.Arrays.copyOf(result, n);
    }

    static byte[] deflated(byte[] raw, int level, int strategy) {
        Deflater deflater = new Deflater(level);
        deflater.setStrategy(strategy);
        deflater.setInput(raw);
        deflater.finish();
        ByteArrayOutputStream out = new ByteArrayOutputStream();
        byte[] some = new byte[5000];
        while (!deflater.finished()) {
            out.write(some, 0, deflater.deflate(some));
        }
        deflater.end();
        return out.toByteArray();
    }

    private static int[] unsigned(byte[] bytes) {
        int[] result = new int[bytes.length];
        for (int k = 0; k < bytes.length; k++) {
            result[k] = bytes[k] & 255;
        }
        return result;
    }

    static byte[] plainPacked(byte[] raw) {
        int[] values = unsigned(raw);
        return Bits.packed().plain(1, values).sum(values).all();
    }

    /** From each place every distance is tried. */
    static byte[] shortPacked(byte[] bytes) {
        int[] raw = unsigned(bytes);
        Bits out = Bits.packed().block(1, 1);
        int at = 0;
        while (at < raw.length) {
            int best = 0;
            int distance = 0;
            int most = Math.min(258, raw.length - at);
            for (int d = 1; d <= 32768 && d <= at && best < most; d++) {
                int n = 0;
                while (n < most && raw[at + n] == raw[at + n - d]) {
                    n++;
                }
                if (n > best) {
                    best = n;
                    distance = d;
                }
            }
            if (best < 3) {
                out.sign(raw[at]);
                at++;
            } else {
                copy(out, best, distance);
                at += best;
            }
        }
        return out.sign(256).sum(raw).all();
    }

    /** A copy in a block of kind 1. */
    static void copy(Bits out, int length, int distance) {
        if (length == 258) {
            out.sign(285);
        } else {
            int sign = 257;
            int begin = 3;
            while (begin + (1 << lengthBits(sign)) <= length) {
                begin += 1 << lengthBits(sign);
                sign++;
            }
            out.sign(sign).number(length - begin, lengthBits(sign));
        }
        int code = 0;
        int begin = 1;
        while (begin + (1 << distanceBits(code)) <= distance) {
            begin += 1 << distanceBits(code);
            code++;
        }
        out.code(Bits.binary(code, 5)).number(distance - begin, distanceBits(code));
    }

    private static int lengthBits(int sign) {
        return sign < 265 ? 0 : (sign - 261) / 4;
    }

    private static int distanceBits(int code) {
        return code < 4 ? 0 : code / 2 - 1;
    }
}
