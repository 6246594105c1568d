/** Promises 19 to 21: image, dot, box. */
public final class ImageTest {
    public static void main(String[] args) {
        refusals();
        counts();
        belowZero();
        edges();
        empty();
        Check.end();
    }

    private static LetterFoundry square(int x, int y, int side) {
        LetterFoundry f = new LetterFoundry();
        f.letter(1, 0);
        Check.polygon(f, 0, x, y, x + side, y, x + side, y + side, x, y + side);
        return f;
    }

    private static void refusals() {
        LetterFoundry f = square(0, 0, 512);
        Check.due("image", f.image(0, 1, 4, 0), 4);
        f.move(0, 0, 100, 0);
        Check.due("no letter", f.image(1, 1, 4, 0), -1);
        Check.due("t 0", f.image(0, 0, 4, 0), -1);
        Check.due("t 257", f.image(0, 257, 4, 0), -1);
        Check.due("s 3", f.image(0, 1, 3, 0), -1);
        Check.due("s 33", f.image(0, 1, 33, 0), -1);
        Check.due("rule 2", f.image(0, 1, 4, 2), -1);
        Check.due("rule -1", f.image(0, 1, 4, -1), -1);
        Check.due("the polygons stay", f.flat(0, 1), 0);
        Check.due("the image stays", f.dot(0, 0), 64);
        Check.due("another", f.image(0, 1, 4, 0), 4);
        Check.due("is the latest", f.flat(0, 1), 100);
        f.flatten(0, 256);
        f.reverse(0, 0);
        f.flatten(0, 1);
        Check.due("the image is no flatten's", f.dot(1, 1), 64);
    }

    private static void counts() {
        LetterFoundry f = square(0, 0, 100);
        // 8 dots an EM: a sample each 16 steps, the first at 8; 6 of 8 are below 100
        Check.due("one dot", f.image(0, 1, 8, 0), 1);
        Check.due("count", f.dot(0, 0), 36);
        Check.polygon(f, 0, 0, 0, 40, 0, 40, 100, 0, 100);
        // of the samples at 8, 24 and 40, the one on the right edge is not within
        Check.due("rule 1", f.image(0, 1, 8, 1), 1);
        Check.due("count", f.dot(0, 0), 24);
        f.image(0, 1, 8, 0);
        Check.due("count by rule 0", f.dot(0, 0), 36);
        f.reverse(0, 1);
        f.image(0, 1, 8, 0);
        Check.due("against one another", f.dot(0, 0), 24);
        // A sample on the left edge is filled, one on the right edge is not
        LetterFoundry g = square(8, 8, 16);
        g.image(0, 1, 8, 0);
        Check.due("one sample", g.dot(0, 0), 1);
        // 7 dots an EM: the samples are at fractions, the first at 64 / 7 = 9.14
        LetterFoundry h = square(9, 9, 1);
        Check.due("a step with a sample", h.image(0, 1, 7, 0), 1);
        Check.due("its count", h.dot(0, 0), 1);
        LetterFoundry i = square(10, 10, 17);
        Check.due("none between two samples", i.image(0, 1, 7, 0), 0);
        Check.due("no box", i.box(0), -1000);
    }

    private static void belowZero() {
        LetterFoundry f = square(-300, -600, 100);
        Check.due("dots", f.image(0, 1, 8, 0), 4);
        Check.due("least i", f.box(0), -3);
        Check.due("greatest i", f.box(2), -2);
        Check.due("least j", f.box(1), -5);
        Check.due("greatest j", f.box(3), -4);
        Check.due("what 4", f.box(4), -1000);
        Check.due("what -1", f.box(-1), -1000);
        int sum = 0;
        for (int i = -4; i <= 0; i++) {
            for (int j = -6; j <= 0; j++) {
                sum += f.dot(i, j);
            }
        }
        // -296 .. -216 across, -600 (on the lower edge) .. -504 up
        Check.due("samples", sum, 6 * 7);
    }

    private static void edges() {
        LetterFoundry f = square(-4096, -4096, 4096);
        Check.due("from -16 on", f.image(0, 1, 4, 0), 256);
        Check.due("the first dot", f.dot(-16, -16), 64);
        Check.due("beyond", f.dot(-17, -16), 0);
        Check.due("beyond", f.dot(-16, -17), 0);
        f.move(0, 0, -4097, -4096);
        Check.due("x below", f.image(0, 1, 4, 0), -1);
        f.move(0, 0, -4096, -4097);
        Check.due("y below", f.image(0, 1, 4, 0), -1);
        LetterFoundry g = square(12287 - 256, 12287 - 256, 256);
        Check.due("up to 48", g.image(0, 1, 4, 0), 1);
        Check.due("the last dot", g.dot(47, 47), 64);
        Check.due("box", g.box(2), 47);
        Check.due("beyond", g.dot(48, 47), 0);
        Check.due("beyond", g.dot(47, 48), 0);
        Check.due("beyond", g.dot(48, 46), 0);
        Check.due("far beyond", g.dot(Integer.MAX_VALUE, Integer.MIN_VALUE), 0);
        g.move(0, 1, 12288, 12000);
        Check.due("x at 48", g.image(0, 1, 4, 0), -1);
        g.move(0, 1, 12000, 12288);
        Check.due("y at 48", g.image(0, 1, 4, 0), -1);
        Check.due("the polygons stay", g.flat(1, 1), 12287);
        Check.due("the image stays", g.dot(47, 47), 64);
        LetterFoundry h = square(-512, 1535 - 100, 100);
        Check.due("at 32", h.image(0, 1, 32, 0) > 0, true);
        h.move(0, 2, 0, 1536);
        Check.due("y at 48", h.image(0, 1, 32, 0), -1);
    }

    private static void empty() {
        LetterFoundry f = square(0, 0, 512);
        f.letter(2, 0);
        f.image(0, 1, 4, 0);
        Check.due("box", f.box(2), 1);
        Check.due("an empty letter", f.image(1, 1, 4, 0), 0);
        Check.due("no count", f.dot(0, 0), 0);
        Check.due("no box", f.box(2), -1000);
        Check.due("no points", f.flat(0, 0), -1000000);
    }
}
