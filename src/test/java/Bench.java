/** Objects to begin with: runs of calls that leave something of everything. */
final class Bench {
    /** Letters 7 and 8, both without outlines. */
    static final Same.Script FEW = f -> {
        f.letter(7, 70);
        f.letter(8, 80);
    };

    /**
     * Something of everything: 0 two closed outlines, 1 a closed and an open one, 2 parts of 0 and 1,
     * 3 a part of 2, 4 empty, 5 an open outline without points, 6 the letter of code 0.
     */
    static final Same.Script RICH = f -> {
        letters(f);
        programs(f);
        masters(f);
        kernings(f);
        lines(f);
        f.flatten(3, 4);
        f.image(0, 4, 16, 1);
        f.run(0, 12);
    };

    static final int RICH_LETTERS = 7;

    private Bench() {
    }

    static Same.Script richAnd(Same.Script more) {
        return f -> {
            RICH.play(f);
            more.play(f);
        };
    }

    static void outline(LetterFoundry f, int l, int... xyKind) {
        f.outline(l);
        for (int k = 0; k + 2 < xyKind.length; k += 3) {
            f.point(l, xyKind[k], xyKind[k + 1], xyKind[k + 2]);
        }
        f.close(l);
    }

    static void acts(LetterFoundry f, int l, int... opArg) {
        for (int k = 0; k + 1 < opArg.length; k += 2) {
            f.act(l, opArg[k], opArg[k + 1]);
        }
    }

    private static void letters(LetterFoundry f) {
        int[] codes = {1, 2, 3, 4, 12, 5, 0};
        for (int l = 0; l < RICH_LETTERS; l++) {
            f.letter(codes[l], 100 * l + 50);
        }
        outline(f, 0, 0, 0, 0, 400, 0, 0, 400, 300, 0, 0, 300, 0);
        outline(f, 0, 100, 100, 0, 200, 250, 1, 300, 100, 0);
        outline(f, 1, 0, 0, 0, 0, 200, 2, 200, 200, 2, 200, 0, 0);
        f.outline(1);
        f.point(1, 7, 8, 0);
        f.point(1, 9, 10, 2);
        f.part(2, 0, 10, 20);
        f.part(2, 1, -30, 40);
        f.matrix(2, 0, 8192, 100, -100, -8192);
        f.part(3, 2, 5, 6);
        f.outline(5);
    }

    private static void programs(LetterFoundry f) {
        acts(f, 0, 0, 70, 23, 1, 26, 3, 28, 0, 0, 5, 25, 4, 29, 0);
        acts(f, 1, 27, 2, 0, 9, 20, 3);
        acts(f, 4, 0, 1);
    }

    private static void masters(LetterFoundry f) {
        f.weight(0, 16384);
        f.weight(1, -8192);
        f.weight(2, 300);
        f.delta(0, 0, 1, 11, 13);
        f.delta(0, 1, 1, 100, -200);
        f.delta(0, 2, 6, 2000, 1000);
        f.delta(1, 0, 3, -7, 9);
    }

    private static void kernings(LetterFoundry f) {
        f.classOf(0, 0, 3);
        f.classOf(0, 1, 4);
        f.classOf(1, 0, 15);
        f.classOf(6, 1, 1);
        f.kern(4, 15, -20);
        f.kern(0, 3, 30);
        f.kern(0, 0, 2);
        f.exception(0, 2, 77);
        f.exception(1, 1, 0);
    }

    private static void lines(LetterFoundry f) {
        f.join(1, 2, -1, 12);
        f.join(1, 2, 3, 4);
        f.join(5, 5, -1, 999);
        for (int code : new int[] {1, 2, 3, 1, 2, 900, 5, 5, 1}) {
            f.sign(code);
        }
        f.set();
        f.sign(3);
        f.sign(1);
    }
}
