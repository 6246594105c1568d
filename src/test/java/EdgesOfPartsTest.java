/** Term II, promises 10 to 13: part, matrix, info, at. */
public final class EdgesOfPartsTest {
    private static final int LETTERS = Bench.RICH_LETTERS;

    /** Letter k has a depth of k (0 .. 4); 5 and 6 have no parts. */
    private static final Same.Script DEEP = f -> {
        for (int l = 0; l < 7; l++) {
            f.letter(l, 0);
        }
        for (int l = 1; l <= 4; l++) {
            f.part(l, l - 1, l, 0);
        }
        Bench.outline(f, 0, 0, 0, 0, 100, 0, 0, 0, 100, 0);
    };

    public static void main(String[] args) {
        parts();
        depths();
        sixParts();
        matrices();
        rounding();
        openOutlines();
        infos();
        points();
        Check.end();
    }

    // "no such LETTERS, l has OUTLINES (an open one, too), or is a PART of one, l and of are the same"
    private static void parts() {
        Edge.noLetter("part", Bench.RICH, LETTERS, -1, (f, l) -> f.part(l, 0, 0, 0));
        Edge.noLetter("of", Bench.RICH, LETTERS, -1, (f, of) -> f.part(4, of, 0, 0));
        Edge.taken("of the first", Bench.RICH, 0, f -> f.part(4, 0, 0, 0));
        Edge.taken("of the last", Bench.RICH, 0, f -> f.part(4, LETTERS - 1, 0, 0));
        Edge.numbers("dx", Bench.RICH, -32000, 32000, -1, (f, dx) -> f.part(4, 0, dx, 0));
        Edge.numbers("dy", Bench.RICH, -32000, 32000, -1, (f, dy) -> f.part(4, 0, 0, dy));
        Edge.refused("closed outlines, and it is a part", Bench.RICH, -1, f -> f.part(0, 4, 0, 0));
        Edge.refused("an open outline", Bench.RICH, -1, f -> f.part(5, 4, 0, 0));
        Edge.refused("itself", Bench.RICH, -1, f -> f.part(4, 4, 0, 0));
        Edge.refused("itself, with parts", Bench.RICH, -1, f -> f.part(3, 3, 0, 0));
        Edge.refused("is a part", Bench.RICH, -1, f -> f.part(2, 4, 0, 0));
        Edge.refused("would come round", Bench.RICH, -1, f -> f.part(2, 3, 0, 0));
        Same.Script closed = Bench.richAnd(f -> Bench.outline(f, 4, 0, 0, 0, 1, 1, 0));
        Edge.refused("a closed outline", closed, -1, f -> f.part(4, 6, 0, 0));
        Edge.taken("dropped ones don't count", closed, 0, f -> f.drop(4) + f.part(4, 6, 0, 0));
        Edge.taken("nor an open one that was dropped", Bench.RICH, 0, f -> f.drop(5) + f.part(5, 6, 0, 0));
        Same.Script asPart = Bench.richAnd(f -> f.part(3, 4, 0, 0));
        Edge.refused("is a part without outlines or parts", asPart, -1, f -> f.part(4, 6, 0, 0));
        Edge.taken("may be a part of several", asPart, 0, f -> f.part(6, 4, 0, 0));
        Edge.taken("a refused one is no part", Bench.RICH, 0, f -> f.part(2, 4, 0, 0) + 1 + f.part(4, 6, 0, 0));
        Edge.taken("a letter with an open outline may be one", Bench.RICH, 0, f -> f.part(4, 5, 0, 0));
    }

    // "others than itself, of a DEPTH up to 3"; "of has a DEPTH of 4"
    private static void depths() {
        for (int l = 0; l <= 4; l++) {
            int depth = l;
            Edge.taken("depth", DEEP, depth, f -> f.info(depth, 5));
        }
        Edge.taken("of depth 0", DEEP, 1, f -> f.part(5, 0, 0, 0) + f.info(5, 5));
        Edge.taken("of depth 3", DEEP, 4, f -> f.part(5, 3, 0, 0) + f.info(5, 5));
        Edge.refused("of depth 4", DEEP, -1, f -> f.part(5, 4, 0, 0));
        Edge.taken("depth 4 may get more", DEEP, 1, f -> f.part(4, 6, 0, 0));
        Edge.taken("the greatest counts", DEEP, 4, f -> f.part(4, 6, 0, 0) - 1 + f.info(4, 5));
        Edge.taken("all four are flattened", DEEP, 3, f -> f.flatten(4, 1));
        Edge.taken("each moves it", DEEP, 1 + 2 + 3 + 4, f -> f.flatten(4, 1) - 3 + f.flat(0, 1));
    }

    // "PARTS (6 at most)"; "or there are 6"
    private static void sixParts() {
        Same.Script five = Bench.richAnd(f -> {
            for (int k = 0; k < 5; k++) {
                f.part(4, 0, 100 * k, 0);
            }
        });
        Same.Script six = f -> {
            five.play(f);
            f.part(4, 1, 500, 0);
        };
        Edge.refused("no matrix of a sixth yet", five, 0, f -> Edge.of(f.matrix(4, 5, 1, 1, 1, 1)));
        Edge.taken("a sixth", five, 5, f -> f.part(4, 1, 500, 0));
        Edge.refused("a seventh", six, -1, f -> f.part(4, 0, 0, 0));
        Edge.refused("a seventh of another", six, -1, f -> f.part(4, 6, 0, 0));
        Edge.taken("which is then no part", six, 0, f -> f.part(4, 6, 0, 0) + 1 + f.part(6, 5, 0, 0));
        Edge.taken("how many", six, 6, f -> f.info(4, 4));
        Edge.taken("a matrix of the sixth", six, 1, f -> Edge.of(f.matrix(4, 5, 1, 1, 1, 1)));
        Edge.refused("none of a seventh", six, 0, f -> Edge.of(f.matrix(4, 6, 1, 1, 1, 1)));
    }

    // "a MATRIX xx, xy, yx, yy (each -32768 .. 32767; first 16384 0 0 16384)"
    private static void matrices() {
        Edge.noLetter("matrix", Bench.RICH, LETTERS, 0, (f, l) -> Edge.of(f.matrix(l, 0, 1, 1, 1, 1)));
        Edge.numbers("part", Bench.RICH, 0, 1, 0, (f, p) -> Edge.of(f.matrix(2, p, 1, 1, 1, 1)));
        for (int l : new int[] {0, 1, 4, 5}) {
            Edge.refused("no parts", Bench.RICH, 0, f -> Edge.of(f.matrix(l, 0, 1, 1, 1, 1)));
        }
        Edge.numbers("xx", Bench.RICH, -32768, 32767, 0, (f, v) -> Edge.of(f.matrix(2, 1, v, 1, 1, 1)));
        Edge.numbers("xy", Bench.RICH, -32768, 32767, 0, (f, v) -> Edge.of(f.matrix(2, 1, 1, v, 1, 1)));
        Edge.numbers("yx", Bench.RICH, -32768, 32767, 0, (f, v) -> Edge.of(f.matrix(2, 1, 1, 1, v, 1)));
        Edge.numbers("yy", Bench.RICH, -32768, 32767, 0, (f, v) -> Edge.of(f.matrix(2, 1, 1, 1, 1, v)));
        Same.Script one = f -> {
            Bench.FEW.play(f);
            Bench.outline(f, 0, 1000, 3000, 0, 0, 0, 0);
            f.part(1, 0, 0, 0);
        };
        Edge.refused("the first matrix", one, 1, f -> Edge.of(f.matrix(1, 0, 16384, 0, 0, 16384)));
        Same.Script far = f -> {
            one.play(f);
            f.move(0, 0, 32000, 31000);
            f.flatten(1, 1);
        };
        Edge.taken("the first matrix leaves x as it is", far, 32000, f -> f.flat(0, 1));
        Edge.taken("and y", far, 31000, f -> f.flat(0, 2));
        place(one, new int[] {16384, 0, 0, 16384}, 1000, 3000);
        // 32767 / 16384 is a little less than 2
        place(one, new int[] {-32768, 0, 0, 32767}, -2000, 6000);
        place(one, new int[] {32767, 0, 0, -32768}, 2000, -6000);
        place(one, new int[] {0, -32768, 32767, 0}, -6000, 2000);
        place(one, new int[] {0, 32767, -32768, 0}, 6000, -2000);
        place(one, new int[] {-32768, -32768, -32768, -32768}, -8000, -8000);
        place(one, new int[] {0, 0, 0, 1}, 0, 0);
    }

    private static void place(Same.Script script, int[] m, int x, int y) {
        LetterFoundry f = Edge.made(script);
        f.matrix(1, 0, m[0], m[1], m[2], m[3]);
        f.flatten(1, 1);
        boolean isNone = x == 0 && y == 0;
        Check.due("x", f.flat(0, 1), isNone ? -1000000 : x);
        Check.due("y", f.flat(0, 2), isNone ? -1000000 : y);
    }

    // "ROUNDED(a / b): to the nearest, of two as near the even one"
    private static void rounding() {
        int[][] dues = {
            {8191, 0}, {8192, 0}, {8193, 1}, {24575, 1}, {24576, 2}, {24577, 2},
            {-8191, 0}, {-8192, 0}, {-8193, -1}, {-24575, -1}, {-24576, -2}, {-24577, -2}
        };
        for (int[] due : dues) {
            LetterFoundry f = Edge.made(Bench.FEW);
            Bench.outline(f, 0, 1, 0, 0, 0, 1, 0);
            f.part(1, 0, 100, 200);
            f.matrix(1, 0, due[0], 0, 16384, due[0]);
            f.flatten(1, 1);
            Check.due("x by " + due[0], f.flat(0, 1), 100 + due[1]);
            Check.due("y by " + due[0], f.flat(1, 2), 200 + due[1]);
        }
    }

    // "The last OUTLINE may be open; all else is asked of closed ones alone."
    private static void openOutlines() {
        Same.Script open = Bench.richAnd(f -> {
            f.drop(5);
            Bench.outline(f, 5, 0, 0, 0, 10, 0, 0, 0, 10, 0);
            f.outline(5);
            f.point(5, 500, 500, 0);
            f.point(5, 600, 500, 0);
            f.act(5, 28, 0);
            f.part(4, 5, 1, 1);
        });
        Edge.taken("closed outlines", open, 1, f -> f.info(5, 2));
        Edge.taken("their points", open, 3, f -> f.info(5, 3));
        Edge.taken("points of the open one", open, 2, f -> f.info(5, 6));
        Edge.refused("at", open, -100000, f -> f.at(5, 3, 0));
        Edge.refused("move", open, 0, f -> Edge.of(f.move(5, 3, 0, 0)));
        Edge.refused("reverse", open, 0, f -> Edge.of(f.reverse(5, 1)));
        Edge.refused("delta", open, 0, f -> Edge.of(f.delta(5, 0, 3, 0, 0)));
        Edge.refused("mixed", open, -100000, f -> f.mixed(5, 3, 0));
        Edge.taken("flatten", open, 3, f -> f.flatten(5, 1));
        Edge.taken("flatten as a part", open, 3, f -> f.flatten(4, 1));
        Edge.taken("image", open, 0, f -> f.image(5, 1, 4, 0));
        Edge.taken("run", open, -2000000000, f -> f.run(5, 16) + f.fitted(3, 0));
        Edge.taken("no such point to act on", open, 2, f -> f.act(5, 26, 3) - 2 + f.run(5, 16));
        Edge.taken("when it is closed, all are there", open, 5, f -> f.close(5) + f.info(5, 3));
    }

    // "6 POINTS of the open OUTLINE (NONE, if none is)"; "-2 when there is none such"
    private static void infos() {
        Edge.noLetter("info", Bench.RICH, LETTERS, -2, (f, l) -> f.info(l, 0));
        Edge.noLetter("info", Bench.RICH, LETTERS, -2, (f, l) -> f.info(l, 6));
        Edge.numbers("what", Bench.RICH, 0, 7, -2, (f, what) -> f.info(0, what));
        Edge.numbers("what of parts", Bench.RICH, 0, 7, -2, (f, what) -> f.info(2, what));
        int[][] dues = {
            {1, 50, 2, 7, 0, 0, -1, 7}, {2, 150, 1, 4, 0, 0, 2, 3}, {3, 250, 0, 0, 2, 1, -1, 0},
            {4, 350, 0, 0, 1, 2, -1, 0}, {12, 450, 0, 0, 0, 0, -1, 1}, {5, 550, 0, 0, 0, 0, 0, 0},
            {0, 650, 0, 0, 0, 0, -1, 0}
        };
        LetterFoundry f = Edge.made(Bench.RICH);
        for (int l = 0; l < LETTERS; l++) {
            for (int what = 0; what < 8; what++) {
                Check.due("info " + l + " " + what, f.info(l, what), dues[l][what]);
            }
        }
    }

    // "-100000 when there is none such"
    private static void points() {
        Edge.noLetter("at", Bench.RICH, LETTERS, -100000, (f, l) -> f.at(l, 0, 0));
        Edge.numbers("point", Bench.RICH, 0, 6, -100000, (f, k) -> f.at(0, k, 0));
        Edge.numbers("point ahead of an open one", Bench.RICH, 0, 3, -100000, (f, k) -> f.at(1, k, 0));
        Edge.numbers("what", Bench.RICH, 0, 3, -100000, (f, what) -> f.at(0, 6, what));
        for (int l : new int[] {2, 3, 4, 5, 6}) {
            Edge.refused("no points of its own", Bench.RICH, -100000, f -> f.at(l, 0, 0));
        }
        int[][] dues = {{0, 0, 0, 0}, {0, 300, 0, 0}, {100, 100, 0, 1}, {200, 250, 1, 1}, {300, 100, 0, 1}};
        int[] numbers = {0, 3, 4, 5, 6};
        LetterFoundry f = Edge.made(Bench.RICH);
        for (int d = 0; d < dues.length; d++) {
            for (int what = 0; what < 4; what++) {
                Check.due("at " + numbers[d] + " " + what, f.at(0, numbers[d], what), dues[d][what]);
            }
        }
    }
}
