/** All that an object tells of itself, as a text: to see whether a call has changed something. */
final class State {
    private State() {
    }

    static String of(PictureFile x) {
        return "fault " + x.fault() + ", tape " + tape(x) + ", picture " + picture(x);
    }

    static String tape(PictureFile x) {
        StringBuilder text = new StringBuilder();
        try {
            for (int k = 0; k < 1 << 20; k++) {
                text.append(x.byteAt(k)).append(' ');
            }
        } catch (IndexOutOfBoundsException e) {
            text.append("end");
        }
        return text.toString();
    }

    static String picture(PictureFile x) {
        StringBuilder text = new StringBuilder();
        try {
            for (int what = 0; what < 9; what++) {
                text.append(x.about(what)).append(' ');
            }
        } catch (IllegalStateException e) {
            return "none";
        }
        text.append("colours ");
        for (int k = 0; k < 3 * x.about(5); k++) {
            text.append(x.ofColour(k / 3, k % 3)).append(' ');
        }
        text.append("thin ");
        for (int k = 0; k < x.about(6); k++) {
            text.append(x.ofThin(k)).append(' ');
        }
        text.append("filters ");
        for (int k = 0; k < x.about(7); k++) {
            text.append(x.filter(k)).append(' ');
        }
        return text.append("samples ").append(samples(x)).toString();
    }

    static String samples(PictureFile x) {
        StringBuilder text = new StringBuilder();
        int channels = channels(x.about(2));
        for (int y = 0; y < x.about(1); y++) {
            for (int px = 0; px < x.about(0); px++) {
                for (int c = 0; c < channels; c++) {
                    text.append(x.sample(px, y, c)).append(' ');
                }
            }
        }
        return text.toString();
    }

    static int channels(int kind) {
        return kind == 2 ? 3 : kind == 4 ? 2 : kind == 6 ? 4 : 1;
    }
}
