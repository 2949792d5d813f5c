import java.util.Arrays;
import java.util.TreeSet;

/** Asks for faults of packed bytes, which are laid into pieces IDAT in several ways each time. */
final class Packed {
    /** The place of the first packed byte behind a header alone. */
    static final int FIRST = 41;
    /** So many bytes, and no more, are laid into a piece each. */
    private static final int MOST_PIECES = 400;

    private final Due due;

    Packed(Due due) {
        this.due = due;
    }

    /** A picture of points of a byte in one row. */
    static Files grey(int width) {
        return Files.of(width, 1, 0, 8, 0);
    }

    /** A fault of grey points, at the byte with this bit of the packed bytes. */
    void faulty(String what, int width, Bits packed, int code, int bit) {
        faulty(what, grey(width), packed.all(), code, bit / 8);
    }

    /** A fault 20 of grey points, at the check of the last piece. */
    void lacking(String what, int width, Bits packed) {
        byte[] bytes = packed.all();
        faulty(what, grey(width), bytes, 20, bytes.length);
    }

    /** A fault at the packed byte of this number; behind all bytes: at the check of the last piece. */
    void faulty(String what, Files before, byte[] packed, int code, int number) {
        check(what, before, code, number, packed);
        TreeSet<Integer> cuts = new TreeSet<>(Arrays.asList(0, 1, 2, number - 1, number, number + 1, packed.length));
        for (int cut : cuts) {
            if (cut >= 0 && cut <= packed.length) {
                byte[] left = Arrays.copyOf(packed, cut);
                byte[] right = Arrays.copyOfRange(packed, cut, packed.length);
                check(what + ", cut at " + cut, before, code, number, left, right);
                check(what + ", cut by an empty one at " + cut, before, code, number, left, new byte[0], right);
            }
        }
        if (packed.length <= MOST_PIECES) {
            byte[][] all = new byte[2 * packed.length + 1][0];
            for (int k = 0; k < packed.length; k++) {
                all[2 * k + 1] = new byte[] {packed[k]};
            }
            check(what + ", a piece for each byte", before, code, number, all);
        }
    }

    private void check(String what, Files before, int code, int number, byte[]... pieces) {
        Files file = before.copy();
        int place = 0;
        int had = 0;
        for (byte[] piece : pieces) {
            int first = file.size() + 8;
            if (number >= had && number < had + piece.length) {
                place = first + number - had;
            }
            had += piece.length;
            file.piece("IDAT", piece);
            if (number >= had) {
                place = first + piece.length;
            }
        }
        due.faultyAgain(what, file.ended(), code, place);
    }

    /** No fault of grey points, in one piece or many. */
    PictureFile good(String what, int width, Bits packed) {
        byte[] bytes = packed.all();
        Files file = grey(width).piece("IDAT");
        for (byte value : bytes) {
            file.piece("IDAT", value).piece("IDAT");
        }
        String many = bytes.length > MOST_PIECES ? null : State.picture(due.good(what + ", in pieces", file.ended()));
        PictureFile x = due.good(what, grey(width).piece("IDAT", bytes).ended());
        if (many != null) {
            due.same(what + ": the picture", State.picture(x), many);
        }
        return x;
    }
}
