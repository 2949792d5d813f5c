import java.io.ByteArrayOutputStream;
import java.nio.charset.StandardCharsets;
import java.util.zip.CRC32;

/** Builds a file piece by piece, and brings bytes to a tape and back. */
final class Files {
    static final int[] MARK = {137, 80, 78, 71, 13, 10, 26, 10};

    private final ByteArrayOutputStream out = new ByteArrayOutputStream();

    /** A file with its first eight bytes alone. */
    Files() {
        bytes(MARK);
    }

    /** A file with its header, too. */
    static Files of(int width, int height, int kind, int depth, int laced) {
        return new Files().piece("IHDR", header(width, height, kind, depth, laced));
    }

    /** Another file that begins as this one does. */
    Files copy() {
        Files result = new Files();
        result.out.reset();
        result.out.writeBytes(all());
        return result;
    }

    static byte[] header(int width, int height, int kind, int depth, int laced) {
        return row(width >>> 24, width >> 16, width >> 8, width,
            height >>> 24, height >> 16, height >> 8, height, depth, kind, 0, 0, laced);
    }

    static byte[] row(int... values) {
        byte[] result = new byte[values.length];
        for (int k = 0; k < values.length; k++) {
            result[k] = (byte) values[k];
        }
        return result;
    }

    Files bytes(int... values) {
        out.writeBytes(row(values));
        return this;
    }

    Files number(int value) {
        return bytes(value >>> 24, value >> 16, value >> 8, value);
    }

    Files piece(String type, byte... content) {
        byte[] name = type.getBytes(StandardCharsets.ISO_8859_1);
        CRC32 check = new CRC32();
        check.update(name);
        check.update(content);
        number(content.length);
        out.writeBytes(name);
        out.writeBytes(content);
        return number((int) check.getValue());
    }

    /** How many bytes there are: the place of the next one. */
    int size() {
        return out.size();
    }

    byte[] all() {
        return out.toByteArray();
    }

    byte[] ended() {
        return piece("IEND").all();
    }

    static void load(PictureFile x, byte[] file) {
        x.end(0);
        int[] n = new int[5];
        for (int k = 0; k < file.length; k += 20) {
            for (int i = 0; i < 20; i++) {
                n[i / 4] = n[i / 4] << 8 | (k + i < file.length ? file[k + i] & 255 : 0);
            }
            x.feed(n[0], n[1], n[2], n[3], n[4]);
        }
        x.end(file.length);
    }

    static byte[] tapeOf(PictureFile x, int n) {
        byte[] result = new byte[n];
        for (int k = 0; k < n; k++) {
            result[k] = (byte) x.byteAt(k);
        }
        return result;
    }
}
