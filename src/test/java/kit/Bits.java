import java.io.ByteArrayOutputStream;

/** A row of bits, of each byte the lowest first, and packed bytes made by hand. */
final class Bits {
    private final ByteArrayOutputStream out = new ByteArrayOutputStream();
    private int hold = 0;
    private int held = 0;

    /** Packed bytes with their first two bytes. */
    static Bits packed() {
        return new Bits().number(120, 8).number(1, 8);
    }

    Bits number(int value, int n) {
        for (int k = 0; k < n; k++) {
            hold |= (value >> k & 1) << held;
            held++;
            if (held == 8) {
                out.write(hold);
                hold = 0;
                held = 0;
            }
        }
        return this;
    }

    /** A code, its bits as 0 and 1. */
    Bits code(String bits) {
        for (char bit : bits.toCharArray()) {
            number(bit - '0', 1);
        }
        return this;
    }

    Bits bytes(int... values) {
        align();
        for (int value : values) {
            number(value, 8);
        }
        return this;
    }

    Bits align() {
        while (held != 0) {
            number(0, 1);
        }
        return this;
    }

    /** The first bits of a block. */
    Bits block(int last, int kind) {
        return number(last, 1).number(kind, 2);
    }

    Bits plain(int last, int... values) {
        block(last, 0).align();
        number(values.length, 16).number(~values.length, 16);
        return bytes(values);
    }

    /** A sign in a block of kind 1. */
    Bits sign(int sign) {
        return code(fixedCode(sign));
    }

    static String fixedCode(int sign) {
        if (sign < 144) {
            return binary(0b00110000 + sign, 8);
        }
        if (sign < 256) {
            return binary(0b110010000 + sign - 144, 9);
        }
        return sign < 280 ? binary(sign - 256, 7) : binary(0b11000000 + sign - 280, 8);
    }

    static String binary(int value, int n) {
        StringBuilder text = new StringBuilder();
        for (int k = n - 1; k >= 0; k--) {
            text.append(value >> k & 1);
        }
        return text.toString();
    }

    /** The codes by lengths, each as a text of 0 and 1; null where there is no length. */
    static String[] codes(int... lengths) {
        String[] result = new String[lengths.length];
        int next = 0;
        int before = 0;
        for (int length = 1; length < 16; length++) {
            for (int k = 0; k < lengths.length; k++) {
                if (lengths[k] == length) {
                    next = next << (length - before);
                    before = length;
                    result[k] = binary(next, length);
                    next++;
                }
            }
        }
        return result;
    }

    /** Length codes 0 .. 15 of four bits each, which are full, and none for 16 .. 18. */
    Bits fourBitLengths(int signs, int distances) {
        number(signs - 257, 5).number(distances - 1, 5).number(15, 4);
        for (int k = 0; k < 19; k++) {
            number(k < 3 ? 0 : 4, 3);
        }
        return this;
    }

    /** Length codes 0 .. 12 of four bits each, 13 .. 18 of five. */
    Bits allLengths(int signs, int distances) {
        int[] order = {16, 17, 18, 0, 8, 7, 9, 6, 10, 5, 11, 4, 12, 3, 13, 2, 14, 1, 15};
        number(signs - 257, 5).number(distances - 1, 5).number(15, 4);
        for (int k : order) {
            number(k < 13 ? 4 : 5, 3);
        }
        return this;
    }

    static String lengthCode(int code) {
        int[] lengths = new int[19];
        for (int k = 0; k < 19; k++) {
            lengths[k] = k < 13 ? 4 : 5;
        }
        return codes(lengths)[code];
    }

    /** Lengths behind fourBitLengths(). */
    Bits lengths(int... lengths) {
        for (int length : lengths) {
            code(binary(length, 4));
        }
        return this;
    }

    Bits sum(int... raw) {
        align();
        int s = 1;
        int t = 0;
        for (int value : raw) {
            s = (s + value) % 65521;
            t = (t + s) % 65521;
        }
        return bytes(t >> 8, t, s >> 8, s);
    }

    /** The number of the next bit. */
    int size() {
        return 8 * out.size() + held;
    }

    byte[] all() {
        align();
        return out.toByteArray();
    }
}
