import java.util.zip.CRC32;

/** Promises 1, 2, 3, 17, 18, 19: a new object, feed, end, byteAt, spoil, mend. */
public final class TapeTest {
    private static final Due DUE = new Due();

    public static void main(String[] args) {
        newObject();
        feed();
        feedToTheEdge();
        end();
        byteAt();
        spoil();
        mend();
        DUE.finish();
    }

    private static void newObject() {
        PictureFile x = new PictureFile();
        DUE.same("NONE", PictureFile.NONE, -1);
        DUE.same("fault() of a new object", x.fault(), 0);
        DUE.outside("byteAt(0) of a new object", () -> x.byteAt(0));
        // There is no picture, which counts before every other wrong thing.
        DUE.lacksPicture("about", () -> x.about(0));
        DUE.lacksPicture("about, none of these", () -> x.about(-1));
        DUE.lacksPicture("sample", () -> x.sample(-1, 0, 0));
        DUE.lacksPicture("set", () -> x.set(-1, 0, 0, -1));
        DUE.lacksPicture("fill", () -> x.fill(0, 0, 0, 0, 0, -1));
        DUE.lacksPicture("colour", () -> x.colour(0, 0, 0));
        DUE.lacksPicture("ofColour", () -> x.ofColour(0, 0));
        DUE.lacksPicture("thin", () -> x.thin(0, 0, 0));
        DUE.lacksPicture("ofThin", () -> x.ofThin(0));
        DUE.lacksPicture("filter", () -> x.filter(0));
        DUE.lacksPicture("write", () -> x.write(true));
        DUE.lacksPicture("write", () -> x.write(false));
        DUE.same("read() of an empty tape", x.read(), 0);
        DUE.same("its fault()", x.fault(), 1);
        DUE.lacksPicture("about behind it", () -> x.about(0));
    }

    private static void feed() {
        PictureFile x = new PictureFile();
        DUE.same("feed", x.feed(0x01020304, -1, 0x80000000, 0x7F00FF10, 5), 20);
        int[] due = {1, 2, 3, 4, 255, 255, 255, 255, 128, 0, 0, 0, 127, 0, 255, 16, 0, 0, 0, 5};
        for (int k = 0; k < 20; k++) {
            DUE.same("byte " + k, x.byteAt(k), due[k]);
        }
        DUE.same("feed again", x.feed(6, 7, 8, 9, 0x0A0B0C0D), 40);
        DUE.same("byte 23", x.byteAt(23), 6);
        DUE.same("byte 39", x.byteAt(39), 13);
        DUE.outside("byte 40", () -> x.byteAt(40));
        x.end(3);
        DUE.same("feed behind end(3)", x.feed(0x11121314, 0, 0, 0, 0), 23);
        DUE.same("byte 2", x.byteAt(2), 3);
        DUE.same("byte 3", x.byteAt(3), 0x11);
    }

    /** More calls than are promised, as a tape cannot be filled by fewer. */
    private static void feedToTheEdge() {
        PictureFile x = new PictureFile();
        for (int n = 20; n <= 65520; n += 20) {
            DUE.same("feed", x.feed(n, 0, 0, 0, 0), n);
        }
        DUE.tooMany("feed beyond the edge", () -> x.feed(1, 2, 3, 4, 5));
        DUE.outside("it changes nothing", () -> x.byteAt(65520));
        x.end(65517);
        DUE.tooMany("one byte beyond the edge", () -> x.feed(1, 2, 3, 4, 5));
        x.end(65516);
        DUE.same("feed to the edge", x.feed(1, 2, 3, 4, 5), 65536);
        DUE.same("the last byte", x.byteAt(65535), 5);
        DUE.tooMany("feed at the edge", () -> x.feed(1, 2, 3, 4, 5));
        DUE.same("read", x.read(), 0);
        DUE.outside("byteAt(65536)", () -> x.byteAt(65536));
        x.mend(0, 65532);
        DUE.outside("mend beyond the edge", () -> x.mend(0, 65533));
    }

    private static void end() {
        PictureFile x = new PictureFile();
        x.end(0);
        DUE.notLet("end(1) of an empty tape", () -> x.end(1));
        x.feed(1, 2, 3, 4, 5);
        DUE.notLet("end(-1)", () -> x.end(-1));
        DUE.notLet("end(21)", () -> x.end(21));
        DUE.notLet("end(MIN)", () -> x.end(Integer.MIN_VALUE));
        DUE.notLet("end(MAX)", () -> x.end(Integer.MAX_VALUE));
        x.end(20);
        DUE.same("byte 19", x.byteAt(19), 5);
        x.end(8);
        DUE.same("byte 7", x.byteAt(7), 2);
        DUE.outside("byte 8", () -> x.byteAt(8));
        DUE.notLet("end(9)", () -> x.end(9));
        x.end(0);
        DUE.outside("byte 0", () -> x.byteAt(0));
        DUE.same("feed", x.feed(0, 0, 0, 0, 0), 20);
    }

    private static void byteAt() {
        PictureFile x = new PictureFile();
        x.feed(-1, 0, 0, 0, 200);
        DUE.same("byteAt(0)", x.byteAt(0), 255);
        DUE.same("byteAt(19)", x.byteAt(19), 200);
        DUE.outside("byteAt(-1)", () -> x.byteAt(-1));
        DUE.outside("byteAt(20)", () -> x.byteAt(20));
        DUE.outside("byteAt(MIN)", () -> x.byteAt(Integer.MIN_VALUE));
        DUE.outside("byteAt(MAX)", () -> x.byteAt(Integer.MAX_VALUE));
    }

    private static void spoil() {
        PictureFile x = new PictureFile();
        DUE.outside("spoil(0, 1) of an empty tape", () -> x.spoil(0, 1));
        x.feed(0, 0, 0, 0, 0);
        x.spoil(0, 255);
        x.spoil(19, -2);
        x.spoil(7, 0x1234);
        DUE.same("byte 0", x.byteAt(0), 255);
        DUE.same("byte 1", x.byteAt(1), 0);
        DUE.same("byte 7", x.byteAt(7), 0x34);
        DUE.same("byte 19", x.byteAt(19), 254);
        DUE.outside("spoil(-1, 1)", () -> x.spoil(-1, 1));
        DUE.outside("spoil(20, 1)", () -> x.spoil(20, 1));
    }

    private static void mend() {
        PictureFile x = new PictureFile();
        DUE.outside("mend(0, 0) of an empty tape", () -> x.mend(0, 0));
        x.feed(0x49454E44, 0, -1, 0x01FF80FE, 77);
        x.mend(0, 4);
        DUE.same("the check of IEND", word(x, 4), 0xAE426082L);
        x.mend(2, 0);
        DUE.same("the check of nothing", word(x, 2), 0);
        for (int k = 0; k <= 16; k++) {
            for (int n = 0; k + n <= 16; n++) {
                CRC32 check = new CRC32();
                for (int i = 0; i < n; i++) {
                    check.update(x.byteAt(k + i));
                }
                x.mend(k, n);
                DUE.same("mend(" + k + ", " + n + ")", word(x, k + n), check.getValue());
            }
        }
        x.end(19);
        DUE.outside("mend(0, 16)", () -> x.mend(0, 16));
        DUE.outside("mend(16, 0)", () -> x.mend(16, 0));
        DUE.outside("mend(-1, 4)", () -> x.mend(-1, 4));
        DUE.outside("mend(4, -1)", () -> x.mend(4, -1));
        DUE.outside("mend(0, MAX)", () -> x.mend(0, Integer.MAX_VALUE));
        DUE.outside("mend(MAX, MAX)", () -> x.mend(Integer.MAX_VALUE, Integer.MAX_VALUE));
        DUE.outside("mend(MIN, 0)", () -> x.mend(Integer.MIN_VALUE, 0));
        DUE.outside("mend(5, MIN)", () -> x.mend(5, Integer.MIN_VALUE));
        x.mend(0, 15);
    }

    private static long word(PictureFile x, int k) {
        return (long) x.byteAt(k) << 24 | x.byteAt(k + 1) << 16 | x.byteAt(k + 2) << 8 | x.byteAt(k + 3);
    }
}
