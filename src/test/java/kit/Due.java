import java.util.Arrays;
import java.util.function.Consumer;

/** Counts answers that are due and prints those that are not as due. */
final class Due {
    private int asked = 0;
    private int wrong = 0;
    private int sentences = 0;
    private int askedBefore = 0;
    private String sentence = null;
    private final PictureFile worn = new PictureFile();

    /** What is asked from here on is asked for this sentence of the document. */
    void sentence(String text) {
        endSentence();
        sentence = text;
        askedBefore = asked;
        sentences++;
    }

    private void endSentence() {
        if (sentence != null && asked == askedBefore) {
            tell("nothing is asked");
        }
        sentence = null;
    }

    private void tell(String what) {
        wrong++;
        System.out.println((sentence == null ? "" : "\"" + sentence + "\": ") + what);
    }

    void same(String what, long got, long want) {
        asked++;
        if (got != want) {
            tell(what + " answered " + got + ", due is " + want);
        }
    }

    void same(String what, String got, String want) {
        asked++;
        if (!got.equals(want)) {
            int at = 0;
            while (at < got.length() && at < want.length() && got.charAt(at) == want.charAt(at)) {
                at++;
            }
            tell(what + " answered .. " + piece(got, at) + ", due is .. " + piece(want, at));
        }
    }

    /** A long text is told from where it is another one. */
    private static String piece(String text, int at) {
        return text.substring(Math.max(0, at - 20), Math.min(text.length(), at + 60));
    }

    void that(String what, boolean holds) {
        same(what, holds ? 1 : 0, 1);
    }

    /** The call throws just this exception. */
    void refused(Class<? extends RuntimeException> want, String what, Runnable call) {
        asked++;
        Class<?> got = null;
        try {
            call.run();
        } catch (RuntimeException e) {
            got = e.getClass();
        }
        if (got != want) {
            tell(what + " threw " + got + ", due is " + want);
        }
    }

    /** The call throws just this exception, and changes nothing. */
    void keeps(Class<? extends RuntimeException> want, String what, PictureFile x, Consumer<PictureFile> call) {
        String before = State.of(x);
        refused(want, what, () -> call.accept(x));
        same(what + ", which throws: the state behind it", State.of(x), before);
    }

    void lacksPicture(String what, Runnable call) {
        refused(IllegalStateException.class, what, call);
    }

    void outside(String what, Runnable call) {
        refused(IndexOutOfBoundsException.class, what, call);
    }

    void notLet(String what, Runnable call) {
        refused(IllegalArgumentException.class, what, call);
    }

    void tooMany(String what, Runnable call) {
        refused(UnsupportedOperationException.class, what, call);
    }

    /** The tape has n bytes, and is this file. */
    void tape(String what, PictureFile x, int n, byte[] want) {
        same(what + ": how many bytes", n, want.length);
        byte[] got = Files.tapeOf(x, Math.min(n, want.length));
        same(what + ": first byte that is not as due", Arrays.mismatch(got, want), -1);
        outside(what + ": a byte behind", () -> x.byteAt(n));
    }

    /** The file has this fault at this place, and the object keeps its tape and its picture. */
    void faulty(String what, byte[] file, int code, int place) {
        faulty(what, new PictureFile(), file, code, place);
    }

    /** The same of an object that has read other files before, which saves room and time. */
    void faultyAgain(String what, byte[] file, int code, int place) {
        faulty(what, worn, file, code, place);
    }

    private void faulty(String what, PictureFile x, byte[] file, int code, int place) {
        x.make(3, 2, 2, 16, true);
        x.set(2, 1, 1, 4711);
        x.colour(9, 8, 7);
        x.thin(1, 2, 3);
        Files.load(x, file);
        String tape = State.tape(x);
        String picture = State.picture(x);
        int got = x.read();
        same(what + ": code", x.fault(), code);
        same(what + ": place", got, place);
        same(what + ": the tape", State.tape(x), tape);
        same(what + ": the picture", State.picture(x), picture);
    }

    /** The file has no fault: the object that has read it. */
    PictureFile good(String what, byte[] file) {
        PictureFile x = new PictureFile();
        Files.load(x, file);
        int got = x.read();
        same(what + ": place", got, PictureFile.NONE);
        same(what + ": code", x.fault(), 0);
        return x;
    }

    void finish() {
        endSentence();
        System.out.println(asked + " answers for " + sentences + " sentences, " + wrong + " not as due");
        if (wrong != 0 || asked == 0) {
            System.exit(1);
        }
    }
}
