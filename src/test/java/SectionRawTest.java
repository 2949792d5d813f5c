/** The last sentence of section 3, on filter bytes and numbers of colours: the faults 30 and 31. */
public final class SectionRawTest {
    private static final Due DUE = new Due();

    public static void main(String[] args) {
        filterAboveFour();
        firstFilter();
        filtersOfPasses();
        colourNotThere();
        numberOfThePoint();
        firstPoint();
        filtersBeforeColours();
        otherKinds();
        earlierPictures();
        DUE.finish();
    }

    private static byte[] file(int width, int height, int kind, int depth, int laced, int colours, int... raw) {
        Files file = Files.of(width, height, kind, depth, laced);
        if (colours > 0) {
            file.piece("PLTE", new byte[3 * colours]);
        }
        return file.piece("IDAT", Reference.plainPacked(Files.row(raw))).ended();
    }

    private static void filterAboveFour() {
        DUE.sentence("30, at the number of the raw byte (for a place): a filter byte above 4");
        for (int filter = 0; filter < 256; filter++) {
            byte[] one = file(1, 1, 0, 8, 0, 0, filter, 1);
            if (filter > 4) {
                DUE.faulty("filter " + filter, one, 30, 0);
                DUE.faulty("filter " + filter + " in the second row", file(2, 2, 0, 8, 0, 0, 4, 1, 1, filter, 1, 1), 30, 3);
            } else {
                DUE.good("filter " + filter, one);
                DUE.good("filter " + filter + " in the second row", file(2, 2, 0, 8, 0, 0, 4, 1, 1, filter, 1, 1));
            }
        }
        // Bytes of a row that are no filter bytes may be above 4.
        DUE.good("other bytes", file(2, 2, 0, 8, 0, 0, 0, 5, 255, 4, 255, 5));
        int[] raw = new int[64 * 513];
        raw[63 * 513] = 5;
        DUE.faulty("the last row of the largest picture", file(64, 64, 6, 16, 0, 0, raw), 30, 63 * 513);
    }

    private static void firstFilter() {
        DUE.sentence("30 .. a filter byte above 4, the first one");
        for (int first = 0; first < 4; first++) {
            int[] raw = new int[8];
            for (int row = first; row < 4; row++) {
                raw[2 * row] = 200 - 50 * row;
            }
            DUE.faulty("from row " + first + " on", file(1, 4, 0, 8, 0, 0, raw), 30, 2 * first);
        }
    }

    private static void filtersOfPasses() {
        DUE.sentence("30 .. (laced: the rows of the passes)");
        PictureFile x = new PictureFile();
        x.make(9, 9, 0, 8, true);
        int rows = x.about(7);
        int total = x.about(8);
        int[] points = {2, 2, 1, 1, 3, 2, 2, 2, 5, 5, 4, 4, 4, 4, 4, 9, 9, 9, 9};
        DUE.same("rows", rows, points.length);
        int at = 0;
        for (int k = 0; k < rows; k++) {
            int[] raw = new int[total];
            raw[at] = 5;
            DUE.faulty("row " + k, file(9, 9, 0, 8, 1, 0, raw), 30, at);
            at += 1 + points[k];
        }
        DUE.same("raw bytes", at, total);
    }

    private static void colourNotThere() {
        DUE.sentence("31, kind 3 .. whose colour is not there");
        for (int depth = 1; depth <= 8; depth *= 2) {
            for (int colours = 1; colours <= 1 << depth; colours += depth == 8 ? 51 : 1) {
                for (int value = 0; value < 1 << depth; value += depth == 8 ? 17 : 1) {
                    checkColour(depth, colours, value);
                }
                checkColour(depth, colours, colours - 1);
                checkColour(depth, colours, Math.min(colours, (1 << depth) - 1));
            }
        }
    }

    private static void checkColour(int depth, int colours, int value) {
        byte[] file = file(1, 1, 3, depth, 0, colours, 0, value << 8 - depth);
        String what = "colour " + value + " of " + colours + ", depth " + depth;
        if (value < colours) {
            DUE.same(what, DUE.good(what, file).sample(0, 0, 0), value);
        } else {
            DUE.faulty(what, file, 31, 0);
        }
    }

    private static void numberOfThePoint() {
        DUE.sentence("31 .. at the number of the point (y * width + x)");
        for (int width : new int[] {1, 3, 8, 9}) {
            for (int height : new int[] {1, 2, 7}) {
                for (int laced = 0; laced < 2; laced++) {
                    for (int point = 0; point < width * height; point++) {
                        Reference like = new Reference(width, height, 3, 2, laced == 1);
                        like.samples[point] = 3;
                        byte[] packed = Reference.plainPacked(like.raw(point % 5));
                        DUE.faulty("point " + point + " of " + width + " by " + height, Files.of(width, height, 3, 2, laced)
                            .piece("PLTE", new byte[9]).piece("IDAT", packed).ended(), 31, point);
                    }
                }
            }
        }
        Reference largest = new Reference(64, 64, 3, 8, true);
        largest.samples[4095] = 255;
        DUE.faulty("the last point of the largest", Files.of(64, 64, 3, 8, 1).piece("PLTE", new byte[765])
            .piece("IDAT", Reference.plainPacked(largest.raw(0))).ended(), 31, 4095);
    }

    private static void firstPoint() {
        DUE.sentence("31 .. the first one whose colour is not there");
        DUE.faulty("both of two", file(2, 1, 3, 8, 0, 2, 0, 2, 2), 31, 0);
        DUE.faulty("the second and the third", file(3, 1, 3, 8, 0, 2, 0, 1, 2, 3), 31, 1);
        DUE.faulty("in the second row", file(2, 2, 3, 8, 0, 2, 0, 1, 1, 0, 2, 255), 31, 2);
        // Pass 2 has (4, 0), which is before (1, 0) among the raw bytes, but not among the numbers.
        Reference like = new Reference(5, 5, 3, 8, true);
        like.set(4, 0, 0, 7);
        like.set(1, 0, 0, 7);
        DUE.faulty("a point of a later pass", Files.of(5, 5, 3, 8, 1).piece("PLTE", new byte[21])
            .piece("IDAT", Reference.plainPacked(like.raw(0))).ended(), 31, 1);
    }

    private static void filtersBeforeColours() {
        DUE.sentence("Then 30 .. 31");
        DUE.faulty("30 in the second row", file(2, 2, 3, 8, 0, 2, 0, 9, 9, 5, 0, 0), 30, 3);
        DUE.faulty("30 in the last row of a laced one", file(2, 2, 3, 8, 1, 2, 0, 9, 0, 9, 5, 9, 9), 30, 4);
    }

    private static void otherKinds() {
        DUE.sentence("31, kind 3 (and no other)");
        DUE.good("kind 0", file(2, 1, 0, 8, 0, 0, 0, 255, 255));
        DUE.good("kind 2 with one colour", file(1, 1, 2, 8, 0, 1, 0, 255, 255, 255));
        DUE.good("kind 6 with one colour", file(1, 1, 6, 8, 0, 1, 0, 255, 255, 255, 255));
        // What is left of a byte is no point.
        DUE.good("left bits", file(3, 1, 3, 2, 0, 1, 0, 3));
        DUE.good("left bits of a laced one", file(2, 1, 3, 1, 1, 1, 0, 127, 0, 127));
    }

    /** Points beyond a picture's last one are none, whatever an earlier picture had there. */
    private static void earlierPictures() {
        DUE.sentence("31 (of the points of this picture)");
        PictureFile x = new PictureFile();
        byte[] large = file(3, 1, 3, 8, 0, 256, 0, 255, 255, 255);
        byte[] small = file(2, 1, 3, 8, 0, 1, 0, 0, 0);
        for (byte[] file : new byte[][] {large, large, small, small}) {
            Files.load(x, file);
            DUE.same("an earlier picture", x.read(), PictureFile.NONE);
        }
    }
}
