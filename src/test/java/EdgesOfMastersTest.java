/** Term VI, promises 26 to 28: the last that is taken, the first that is refused. */
public final class EdgesOfMastersTest {
    private static final int LETTERS = Bench.RICH_LETTERS;

    public static void main(String[] args) {
        deltas();
        weights();
        mixed();
        rounding();
        extremes();
        atFirst();
        Check.end();
    }

    // "DELTA dx, dy (-2000 .. 2000; 0 at first)"; "false when there is none such, or it can't be"
    private static void deltas() {
        Edge.noLetter("delta", Bench.RICH, LETTERS, 0, (f, l) -> Edge.of(f.delta(l, 0, 0, 1, 1)));
        Edge.numbers("master", Bench.RICH, 0, 2, 0, (f, m) -> Edge.of(f.delta(0, m, 0, 1, 1)));
        Edge.numbers("point", Bench.RICH, 0, 6, 0, (f, k) -> Edge.of(f.delta(0, 0, k, 1, 1)));
        Edge.numbers("point ahead of an open one", Bench.RICH, 0, 3, 0, (f, k) -> Edge.of(f.delta(1, 0, k, 1, 1)));
        Edge.numbers("dx", Bench.RICH, -2000, 2000, 0, (f, dx) -> Edge.of(f.delta(0, 0, 1, dx, 1)));
        Edge.numbers("dy", Bench.RICH, -2000, 2000, 0, (f, dy) -> Edge.of(f.delta(0, 0, 1, 1, dy)));
        for (int l : new int[] {2, 3, 4, 5, 6}) {
            Edge.refused("no points of its own", Bench.RICH, 0, f -> Edge.of(f.delta(l, 0, 0, 1, 1)));
        }
        Edge.refused("as it is", Bench.RICH, 1, f -> Edge.of(f.delta(0, 0, 1, 11, 13)));
    }

    // "MASTERS 0 .. 2, each with a weight (-32768 .. 32767; 0 at first)"
    private static void weights() {
        for (int m = 0; m < 3; m++) {
            int master = m;
            Edge.numbers("weight", Bench.RICH, -32768, 32767, 0, (f, w) -> Edge.of(f.weight(master, w)));
        }
        Edge.numbers("master", Bench.RICH, 0, 2, 0, (f, m) -> Edge.of(f.weight(m, 7)));
        Edge.refused("as it is", Bench.RICH, 1, f -> Edge.of(f.weight(1, -8192)));
    }

    // "-100000 when there is none such"
    private static void mixed() {
        Edge.noLetter("mixed", Bench.RICH, LETTERS, -100000, (f, l) -> f.mixed(l, 0, 0));
        Edge.numbers("point", Bench.RICH, 0, 6, -100000, (f, k) -> f.mixed(0, k, 0));
        Edge.numbers("point ahead of an open one", Bench.RICH, 0, 3, -100000, (f, k) -> f.mixed(1, k, 0));
        Edge.numbers("what", Bench.RICH, 0, 1, -100000, (f, what) -> f.mixed(0, 6, what));
        for (int l : new int[] {2, 3, 4, 5, 6}) {
            Edge.refused("no points of its own", Bench.RICH, -100000, f -> f.mixed(l, 0, 0));
        }
    }

    private static LetterFoundry onePoint(int x, int y) {
        LetterFoundry f = Edge.made(Bench.FEW);
        Bench.outline(f, 0, x, y, 0, 0, 0, 1);
        return f;
    }

    // "x + ROUNDED((sum of weight times dx) / 16384), y likewise"
    private static void rounding() {
        int[][] dues = {
            {8191, 0}, {8192, 0}, {8193, 1}, {24575, 1}, {24576, 2}, {24577, 2}, {32767, 2},
            {-8191, 0}, {-8192, 0}, {-8193, -1}, {-24575, -1}, {-24576, -2}, {-24577, -2}, {-32768, -2}
        };
        for (int[] due : dues) {
            for (int m = 0; m < 3; m++) {
                LetterFoundry f = onePoint(7, 100);
                f.weight(m, due[0]);
                f.delta(0, m, 0, 1, -1);
                Check.due("x by " + due[0], f.mixed(0, 0, 0), 7 + due[1]);
                Check.due("y by " + due[0], f.mixed(0, 0, 1), 100 - due[1]);
            }
        }
    }

    // All at their edges: three times 2000 by -32768 or 32767.
    private static void extremes() {
        LetterFoundry f = onePoint(-32000, 32000);
        for (int m = 0; m < 3; m++) {
            Check.due("weight", f.weight(m, -32768), true);
            Check.due("delta", f.delta(0, m, 0, 2000, -2000), true);
        }
        Check.due("x", f.mixed(0, 0, 0), -32000 - 12000);
        Check.due("y", f.mixed(0, 0, 1), 32000 + 12000);
        for (int m = 0; m < 3; m++) {
            f.weight(m, 32767);
        }
        // 3 times 2000 by 32767 / 16384 is 11999.6
        Check.due("x", f.mixed(0, 0, 0), -32000 + 12000);
        Check.due("y", f.mixed(0, 0, 1), 32000 - 12000);
    }

    // "0 at first": of a new point, too, that stands where one with a DELTA was dropped
    private static void atFirst() {
        LetterFoundry f = onePoint(5, 6);
        f.delta(0, 0, 0, 2000, 2000);
        Check.due("no weight at first", f.mixed(0, 0, 0), 5);
        for (int m = 0; m < 3; m++) {
            f.weight(m, 32767);
        }
        Check.due("no delta at first", f.mixed(0, 1, 0), 0);
        for (int m = 0; m < 3; m++) {
            f.delta(0, m, 1, 99, 99);
        }
        f.drop(0);
        Bench.outline(f, 0, 1, 2, 0, 3, 4, 0, 5, 6, 0);
        for (int k = 0; k < 3; k++) {
            Check.due("x of a new point", f.mixed(0, k, 0), 2 * k + 1);
            Check.due("y of a new point", f.mixed(0, k, 1), 2 * k + 2);
        }
        f.letter(500, 0);
        Bench.outline(f, 2, 1, 2, 0, 3, 4, 0);
        Check.due("of another letter", f.mixed(2, 0, 0), 1);
    }
}
