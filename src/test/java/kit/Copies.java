/** Goes through packed bytes of one block of kind 1, to see its copies. */
final class Copies {
    private final byte[] packed;
    private int next = 19;

    private Copies(byte[] packed) {
        this.packed = packed;
    }

    /** The farthest distance of all copies; 0: there is none. */
    static int farthest(byte[] packed) {
        Copies copies = new Copies(packed);
        int farthest = 0;
        for (int sign = copies.sign(); sign != 256; sign = copies.sign()) {
            if (sign > 256) {
                copies.bits(sign < 265 || sign == 285 ? 0 : (sign - 261) / 4);
                int code = 0;
                for (int k = 0; k < 5; k++) {
                    code = code << 1 | copies.bits(1);
                }
                int many = code < 4 ? 0 : code / 2 - 1;
                int begin = code < 4 ? 1 + code : 1 + (2 + code % 2 << many);
                farthest = Math.max(farthest, begin + copies.bits(many));
            }
        }
        return farthest;
    }

    private int bits(int n) {
        int value = 0;
        for (int k = 0; k < n; k++) {
            value |= (packed[next / 8] >> next % 8 & 1) << k;
            next++;
        }
        return value;
    }

    /** The sign whose code comes next: the codes of all signs are tried. */
    private int sign() {
        String read = "";
        for (int n = 1; n < 10; n++) {
            read += bits(1);
            for (int sign = 0; sign < 288 && n >= 7; sign++) {
                if (Bits.fixedCode(sign).equals(read)) {
                    return sign;
                }
            }
        }
        return 256;
    }
}
