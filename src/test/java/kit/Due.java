/** Counts answers that are due and prints those that are not as due. */
final class Due {
    private int asked = 0;
    private int wrong = 0;

    void same(String what, long got, long want) {
        asked++;
        if (got != want) {
            wrong++;
            System.out.println(what + " answered " + got + ", due is " + want);
        }
    }

    void that(String what, boolean holds) {
        same(what, holds ? 1 : 0, 1);
    }

    /** The call throws just this exception. */
    void refused(Class<? extends RuntimeException> want, String what, Runnable call) {
        asked++;
        Class<?> got = null;
        try {
            call.run();
        } catch (RuntimeException e) {
            got = e.getClass();
        }
        if (got != want) {
            wrong++;
            System.out.println(what + " threw " + got + ", due is " + want);
        }
    }

    void lacksPicture(String what, Runnable call) {
        refused(IllegalStateException.class, what, call);
    }

    void outside(String what, Runnable call) {
        refused(IndexOutOfBoundsException.class, what, call);
    }

    void notLet(String what, Runnable call) {
        refused(IllegalArgumentException.class, what, call);
    }

    void tooMany(String what, Runnable call) {
        refused(UnsupportedOperationException.class, what, call);
    }

    /** The file has this fault at this place, and the object keeps its picture. */
    void faulty(String what, byte[] file, int code, int place) {
        PictureFile x = new PictureFile();
        x.make(7, 5, 4, 16, true);
        x.set(6, 4, 1, 4711);
        Files.load(x, file);
        int got = x.read();
        same(what + ": code", x.fault(), code);
        same(what + ": place", got, place);
        that(what + ": the tape stays", java.util.Arrays.equals(Files.tapeOf(x, file.length), file));
        outside(what + ": the tape's length stays", () -> x.byteAt(file.length));
        same(what + ": the picture stays, width", x.about(0), 7);
        same(what + ": the picture stays, kind", x.about(2), 4);
        same(what + ": the picture stays, colours", x.about(5), 0);
        same(what + ": the picture stays, thin numbers", x.about(6), 0);
        same(what + ": the picture stays, sample", x.sample(6, 4, 1), 4711);
    }

    /** The file has no fault: the object that has read it. */
    PictureFile good(String what, byte[] file) {
        PictureFile x = new PictureFile();
        Files.load(x, file);
        int got = x.read();
        same(what + ": place", got, PictureFile.NONE);
        same(what + ": code", x.fault(), 0);
        return x;
    }

    void finish() {
        System.out.println(asked + " answers, " + wrong + " not as due");
        if (wrong != 0 || asked == 0) {
            System.exit(1);
        }
    }
}
