/** Term IV, promises 19 to 21: the last that is taken, the first that is refused. */
public final class EdgesOfImagesTest {
    private static final int LETTERS = Bench.RICH_LETTERS;

    public static void main(String[] args) {
        numbers();
        fromMinus16To48();
        pointsOfThePolygons();
        rules();
        samples();
        slopes();
        dots();
        boxes();
        latest();
        Check.end();
    }

    /** Letter 0 is a square from x, y on; letter 1 is empty. */
    private static Same.Script square(int x, int y, int side) {
        return f -> {
            Bench.FEW.play(f);
            addSquare(f, x, y, side);
        };
    }

    private static void addSquare(LetterFoundry f, int x, int y, int side) {
        Bench.outline(f, 0, x, y, 0, x + side, y, 0, x + side, y + side, 0, x, y + side, 0);
    }

    // "IMAGES at s (4 .. 32)"; "NONE: it can't be FLATTENED, s or the rule can't be, or there is none"
    private static void numbers() {
        Edge.noLetter("image", Bench.RICH, LETTERS, -1, (f, l) -> f.image(l, 1, 4, 0));
        Edge.numbers("t", Bench.RICH, 1, 256, -1, (f, t) -> f.image(0, t, 8, 0));
        Edge.numbers("s", Bench.RICH, 4, 32, -1, (f, s) -> f.image(0, 1, s, 0));
        Edge.numbers("rule", Bench.RICH, 0, 1, -1, (f, rule) -> f.image(0, 1, 8, rule));
        Edge.numbers("s of an empty letter", Bench.RICH, 4, 32, -1, (f, s) -> f.image(4, 1, s, 0));
        Edge.numbers("rule of an empty letter", Bench.RICH, 0, 1, -1, (f, rule) -> f.image(4, 1, 8, rule));
        Edge.taken("an empty letter", Bench.RICH, 0, f -> f.image(4, 1, 8, 0));
        Edge.taken("an open outline alone", Bench.RICH, 0, f -> f.image(5, 1, 8, 0));
        Edge.taken("the last letter", Bench.RICH, 0, f -> f.image(LETTERS - 1, 1, 8, 0));
        Edge.taken("parts", Bench.RICH, 1, f -> Edge.of(f.image(3, 1, 8, 0) > 0));
    }

    // "if .. s x / 1024 or s y / 1024 is below -16, or not below 48"
    private static void fromMinus16To48() {
        for (int s = 4; s <= 32; s++) {
            int least = -(16384 / s);
            int most = 49151 / s;
            for (int axis = 0; axis < 2; axis++) {
                Check.due("least at " + s, imageWith(axis, least, s) >= 0, true);
                Check.due("below at " + s, imageWith(axis, least - 1, s), -1);
                Check.due("most at " + s, imageWith(axis, most, s) >= 0, true);
                Check.due("beyond at " + s, imageWith(axis, most + 1, s), -1);
            }
        }
        for (int bad : new int[] {-2049, 6144}) {
            Same.Script moved = Bench.richAnd(f -> f.move(0, 6, bad, 0));
            Edge.refused("x " + bad + " at 8", moved, -1, f -> f.image(0, 4, 8, 0));
            Same.Script movedUp = Bench.richAnd(f -> f.move(0, 0, 0, bad));
            Edge.refused("y " + bad + " at 8", movedUp, -1, f -> f.image(0, 4, 8, 0));
        }
    }

    private static int imageWith(int axis, int place, int s) {
        LetterFoundry f = Edge.made(Bench.FEW);
        Bench.outline(f, 0, 0, 0, 0, 100, 0, 0, axis == 0 ? place : 0, axis == 1 ? place : 0, 0);
        return f.image(0, 1, s, 0);
    }

    // ".. for a point x, y of the polygons": neither a control point nor one that was left out
    private static void pointsOfThePolygons() {
        Same.Script curve = f -> {
            Bench.FEW.play(f);
            Bench.outline(f, 0, 12200, 0, 0, 12300, 0, 1, 12200, 100, 0);
        };
        Edge.taken("Q beyond", curve, 1, f -> Edge.of(f.image(0, 256, 4, 0) >= 0));
        Edge.taken("its middle is within", curve, 1, f -> Edge.of(f.image(0, 1, 4, 0) >= 0));
        Same.Script far = f -> {
            Bench.FEW.play(f);
            addSquare(f, 0, 0, 256);
            Bench.outline(f, 0, 32000, 32000, 0, 32000, 32000, 0);
        };
        Edge.taken("a polygon of one is none", far, 1, f -> f.image(0, 1, 4, 0));
    }

    // "One is filled, if the WINDING is not 0 (rule 0), or is odd (1)."
    private static void rules() {
        // as many squares up as down: the winding is their difference
        for (int up = 0; up <= 4; up++) {
            for (int down = 0; down <= 4; down++) {
                LetterFoundry f = Edge.made(Bench.FEW);
                for (int k = 0; k < up + down; k++) {
                    addSquare(f, 0, 0, 256);
                }
                for (int k = 0; k < down; k++) {
                    f.reverse(0, k);
                }
                int winding = up - down;
                Check.due("rule 0 by " + winding, f.image(0, 1, 4, 0), winding != 0 ? 1 : 0);
                Check.due("its dot", f.dot(0, 0), winding != 0 ? 64 : 0);
                Check.due("rule 1 by " + winding, f.image(0, 1, 4, 1), winding % 2 != 0 ? 1 : 0);
                Check.due("its dot", f.dot(0, 0), winding % 2 != 0 ? 64 : 0);
            }
        }
    }

    private static int count(Same.Script script, int s, int i, int j) {
        LetterFoundry f = Edge.made(script);
        f.image(0, 1, s, 0);
        return f.dot(i, j);
    }

    // "dot i, j has 64 samples, a and b 0 .. 7: X = (16 i + 2 a + 1) 64 / s, .."
    private static void samples() {
        // at 8 dots an EM, samples of dot 0, 0 are at 8, 24, .. 120; those of dot -1, -1 at -120 .. -8
        Check.due("its first sample is at its left and lower edge", count(square(8, 8, 1), 8, 0, 0), 1);
        Check.due("or at its right and upper one", count(square(7, 7, 1), 8, 0, 0), 0);
        Check.due("left edge alone", count(square(8, 7, 2), 8, 0, 0), 1);
        Check.due("right edge", count(square(7, 8, 1), 8, 0, 0), 0);
        Check.due("upper edge", count(square(8, 7, 1), 8, 0, 0), 0);
        Check.due("the last sample", count(square(120, 120, 1), 8, 0, 0), 1);
        Check.due("all but it", count(square(0, 0, 120), 8, 0, 0), 49);
        Check.due("all", count(square(0, 0, 121), 8, 0, 0), 64);
        Check.due("none of the next dot", count(square(0, 0, 136), 8, 1, 0), 0);
        Check.due("one column of the next dot", count(square(0, 0, 137), 8, 1, 0), 8);
        Check.due("one row of the next dot", count(square(0, 0, 137), 8, 0, 1), 8);
        Check.due("one sample of the next dot", count(square(0, 0, 137), 8, 1, 1), 1);
        Check.due("below 0", count(square(-8, -8, 1), 8, -1, -1), 1);
        Check.due("below 0, first", count(square(-120, -120, 1), 8, -1, -1), 1);
        Check.due("below 0, all but the first", count(square(-119, -119, 119), 8, -1, -1), 49);
        // at 32 they are at 2, 6, .. 30; at 7 at fractions: 64 / 7 is between 9 and 10
        Check.due("at 32", count(square(2, 2, 1), 32, 0, 0), 1);
        Check.due("at 32, between", count(square(3, 3, 3), 32, 0, 0), 0);
        Check.due("at 7", count(square(9, 9, 1), 7, 0, 0), 1);
        Check.due("at 7, beside", count(square(10, 9, 17), 7, 0, 0), 0);
        Check.due("at 4", count(square(16, 16, 1), 4, 0, 0), 1);
    }

    // Where an edge is no upright one: the samples on it are not left of it.
    private static void slopes() {
        // at 8 dots an EM: dot 2, 3 is from 256 to 384 and from 384 to 512
        Same.Script upper = f -> {
            Bench.FEW.play(f);
            Bench.outline(f, 0, 256, 384, 0, 384, 512, 0, 256, 512, 0);
        };
        Same.Script lower = f -> {
            Bench.FEW.play(f);
            Bench.outline(f, 0, 256, 384, 0, 384, 384, 0, 384, 512, 0);
        };
        // the eight samples of the diagonal are on the upper one's right edge, and the lower one's left one
        Check.due("above the diagonal", count(upper, 8, 2, 3), 28);
        Check.due("below the diagonal", count(lower, 8, 2, 3), 36);
        Same.Script falling = f -> {
            Bench.FEW.play(f);
            Bench.outline(f, 0, 384, 384, 0, 384, 512, 0, 256, 512, 0);
        };
        Check.due("above the falling one", count(falling, 8, 2, 3), 36);
        Same.Script steep = f -> {
            Bench.FEW.play(f);
            // its right edge is at 256 + (y - 384) / 2: samples of row b are at 264 + 16 a below 260 + 8 b
            Bench.outline(f, 0, 256, 384, 0, 320, 512, 0, 256, 512, 0);
        };
        Check.due("a steep one", count(steep, 8, 2, 3), 1 + 1 + 2 + 2 + 3 + 3 + 4);
        Same.Script belowZero = f -> {
            Bench.FEW.play(f);
            Bench.outline(f, 0, -256, -384, 0, -128, -256, 0, -256, -256, 0);
        };
        Check.due("below 0", count(belowZero, 8, -2, -3), 28);
    }

    // "The count of a dot of the latest image; 0 beyond, and without any."
    private static void dots() {
        int[] far = {Integer.MIN_VALUE, -1000, -17, 48, 64, 1000, Integer.MAX_VALUE};
        // from -16 up to a little below 48 at 4 dots an EM
        Same.Script all = f -> {
            Bench.FEW.play(f);
            Bench.outline(f, 0, -4096, -4096, 0, 12287, -4096, 0, 12287, 12287, 0, -4096, 12287, 0);
            f.image(0, 1, 4, 0);
        };
        for (int i : new int[] {-16, 0, 47}) {
            for (int j : new int[] {-16, 0, 47}) {
                Edge.taken("dot " + i + " " + j, all, 64, f -> f.dot(i, j));
            }
            for (int beyond : far) {
                Edge.taken("beyond i", all, 0, f -> f.dot(beyond, i));
                Edge.taken("beyond j", all, 0, f -> f.dot(i, beyond));
            }
        }
        for (int i : far) {
            for (int j : far) {
                Edge.taken("beyond both", all, 0, f -> f.dot(i, j));
            }
        }
        Edge.taken("how many", all, 64 * 64, f -> f.image(0, 1, 4, 0));
        Edge.refused("asking", Bench.RICH, 0, f -> f.dot(48, 48));
        Edge.refused("without any", Bench.FEW, 0, f -> f.dot(0, 0));
    }

    // "The BOX is the least rectangle of dots with all that have a count above 0."
    private static void boxes() {
        Same.Script all = f -> {
            Bench.FEW.play(f);
            Bench.outline(f, 0, -4096, -4096, 0, 12287, -4096, 0, 12287, 12287, 0, -4096, 12287, 0);
            f.image(0, 1, 4, 0);
        };
        int[] widest = {-16, -16, 47, 47};
        for (int what = 0; what < 4; what++) {
            int own = what;
            Edge.taken("the widest", all, widest[what], f -> f.box(own));
            Edge.refused("without any", Bench.FEW, -1000, f -> f.box(own));
            Edge.taken("without a count", Bench.RICH, -1000, f -> f.image(4, 1, 8, 0) + f.box(own));
        }
        Edge.numbers("what", Bench.RICH, 0, 3, -1000, (f, what) -> f.box(what));
        // two dots alone have a count: 2, 5 and 9, 3
        LetterFoundry f = Edge.made(Bench.FEW);
        addSquare(f, 2 * 128 + 8, 5 * 128 + 8, 1);
        addSquare(f, 9 * 128 + 120, 3 * 128 + 120, 1);
        Check.due("two dots", f.image(0, 1, 8, 0), 2);
        int[] two = {2, 3, 9, 5};
        for (int what = 0; what < 4; what++) {
            Check.due("box of two", f.box(what), two[what]);
        }
        // of the latest image alone: a smaller one within, then one elsewhere
        f.drop(0);
        f.drop(0);
        addSquare(f, 4 * 128, 4 * 128, 128);
        Check.due("one dot", f.image(0, 1, 8, 0), 1);
        for (int what = 0; what < 4; what++) {
            Check.due("box of one", f.box(what), 4);
        }
        Check.due("no dot of the one ahead", f.dot(2, 5), 0);
        f.drop(0);
        addSquare(f, -7 * 128, -7 * 128, 128);
        Check.due("one dot", f.image(0, 1, 8, 0), 1);
        for (int what = 0; what < 4; what++) {
            Check.due("box of one below 0", f.box(what), -7);
        }
        LetterFoundry g = Edge.made(square(10, 10, 10));
        Check.due("between samples", g.image(0, 1, 8, 0), 0);
        Check.due("without a count", g.box(0), -1000);
    }

    // "(which is then the latest)"; "(what was FLATTENED then stays as it was ahead of the call, and the image)"
    private static void latest() {
        Same.Script drawn = Bench.richAnd(f -> f.image(1, 199, 32, 0));
        Edge.taken("is the latest flattened", drawn, 100, f -> f.flat(1, 1));
        Edge.taken("with all its points", drawn, -1000000, f -> f.flat(3, 1));
        Edge.taken("which a later flatten changes", drawn, 200, f -> f.flatten(1, 200) - 2 + f.flat(1, 1));
        Edge.taken("the image is no flatten's", Bench.RICH, 64, f -> f.flatten(4, 1) + f.dot(1, 0));
        Edge.taken("that of none is", Bench.RICH, 0, f -> f.image(4, 1, 8, 0) + f.dot(1, 0));
        Same.Script tooMany = Bench.richAnd(f -> {
            f.drop(5);
            Bench.outline(f, 5, 0, 0, 0, 0, 32000, 1, 0, 0, 0, 0, 32000, 1);
        });
        Edge.refused("512 points", tooMany, -1, f -> f.image(5, 1, 4, 0));
    }
}
