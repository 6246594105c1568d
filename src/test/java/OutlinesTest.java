/** Promises 4 to 9 and 13: outline, point, close, drop, move, reverse, at. */
public final class OutlinesTest {
    public static void main(String[] args) {
        outlines();
        points();
        closing();
        dropping();
        moving();
        reversing();
        asking();
        Check.end();
    }

    private static void outlines() {
        LetterFoundry f = new LetterFoundry();
        Check.due("no letter", f.outline(0), -1);
        f.letter(1, 0);
        f.letter(2, 0);
        f.part(1, 0, 0, 0);
        Check.due("has parts", f.outline(1), -1);
        Check.due("letter -1", f.outline(-1), -1);
        for (int o = 0; o < 8; o++) {
            Check.due("outline", f.outline(0), o);
            Check.due("one is open", f.outline(0), -1);
            f.point(0, 0, 0, 0);
            f.point(0, 1, 0, 0);
            Check.due("close", f.close(0), 0);
        }
        Check.due("a ninth", f.outline(0), -1);
        Check.due("drop", f.drop(0), 7);
        Check.due("again an eighth", f.outline(0), 7);
    }

    private static void points() {
        LetterFoundry f = new LetterFoundry();
        Check.due("no letter", f.point(0, 0, 0, 0), -1);
        f.letter(1, 0);
        Check.due("none open", f.point(0, 0, 0, 0), -1);
        f.outline(0);
        int[][] bad = {{-32001, 0, 0}, {32001, 0, 0}, {0, -32001, 0}, {0, 32001, 0}, {0, 0, -1}, {0, 0, 3}};
        for (int[] b : bad) {
            Check.due("bad point", f.point(0, b[0], b[1], b[2]), -1);
        }
        Check.due("the edge", f.point(0, -32000, 32000, 0), 1);
        Check.due("the other edge", f.point(0, 32000, -32000, 0), 2);
        f.close(0);
        Check.due("closed", f.point(0, 0, 0, 0), -1);
        f.outline(0);
        for (int k = 1; k <= 98; k++) {
            Check.due("point", f.point(0, k, 0, 0), k);
        }
        Check.due("point 101 of the letter", f.point(0, 0, 0, 0), -1);
        Check.due("close", f.close(0), 0);
        Check.due("a third outline", f.outline(0), 2);
        Check.due("still 100", f.point(0, 0, 0, 0), -1);
        Check.due("of none", f.close(0), 1);
        Check.due("drop", f.drop(0), 2);
        Check.due("drop", f.drop(0), 1);
        f.outline(0);
        Check.due("points are free again", f.point(0, 0, 0, 0), 1);
    }

    private static int closeOf(int... kinds) {
        LetterFoundry f = new LetterFoundry();
        f.letter(1, 0);
        Check.polygon(f, 0, 5, 5, 6, 6);
        f.outline(0);
        for (int kind : kinds) {
            f.point(0, kind, 0, kind);
        }
        int answer = f.close(0);
        Check.due("open outlines stay open", f.info(0, 6), answer == 0 ? -1 : kinds.length);
        Check.due("closed ones", f.info(0, 2), answer == 0 ? 2 : 1);
        return answer;
    }

    private static void closing() {
        Check.due("empty", closeOf(), 1);
        Check.due("0", closeOf(0), 2);
        Check.due("1", closeOf(1), 1);
        Check.due("2", closeOf(2), 1);
        Check.due("0 0", closeOf(0, 0), 0);
        Check.due("0 1", closeOf(0, 1), 0);
        Check.due("0 2", closeOf(0, 2), 3);
        Check.due("0 2 2", closeOf(0, 2, 2), 0);
        Check.due("0 2 2 2", closeOf(0, 2, 2, 2), 4);
        Check.due("0 2 2 1", closeOf(0, 2, 2, 1), 4);
        Check.due("0 2 2 0", closeOf(0, 2, 2, 0), 0);
        Check.due("0 2 0", closeOf(0, 2, 0), 3);
        Check.due("0 2 1", closeOf(0, 2, 1), 3);
        Check.due("0 1 1", closeOf(0, 1, 1), 3);
        Check.due("0 1 2", closeOf(0, 1, 2), 3);
        Check.due("0 1 0 1", closeOf(0, 1, 0, 1), 0);
        Check.due("0 1 0 2", closeOf(0, 1, 0, 2), 5);
        Check.due("0 0 2 2 0 1 0", closeOf(0, 0, 2, 2, 0, 1, 0), 0);
        Check.due("1 0", closeOf(1, 0), 1);
        LetterFoundry f = new LetterFoundry();
        Check.due("no letter", f.close(0), -2);
        f.letter(1, 0);
        Check.due("none open", f.close(0), -2);
    }

    private static void dropping() {
        LetterFoundry f = new LetterFoundry();
        Check.due("no letter", f.drop(0), -1);
        f.letter(1, 0);
        Check.due("none", f.drop(0), -1);
        Check.polygon(f, 0, 0, 0, 1, 1);
        Check.polygon(f, 0, 2, 2, 3, 3, 4, 5);
        f.outline(0);
        f.point(0, 9, 9, 0);
        Check.due("the open one", f.drop(0), 2);
        Check.due("no more open", f.info(0, 6), -1);
        Check.due("points", f.info(0, 3), 5);
        Check.due("a closed one", f.drop(0), 1);
        Check.due("points", f.info(0, 3), 2);
        Check.due("its points are gone", f.at(0, 2, 0), -100000);
        Check.due("the last", f.drop(0), 0);
        Check.due("none left", f.drop(0), -1);
    }

    private static void moving() {
        LetterFoundry f = new LetterFoundry();
        Check.due("no letter", f.move(0, 0, 0, 0), false);
        f.letter(1, 0);
        Check.polygon(f, 0, 0, 0, 1, 1);
        f.outline(0);
        f.point(0, 7, 7, 0);
        Check.due("a point of an open one", f.move(0, 2, 0, 0), false);
        Check.due("point -1", f.move(0, -1, 0, 0), false);
        Check.due("x", f.move(0, 0, -32001, 0), false);
        Check.due("y", f.move(0, 0, 0, 32001), false);
        Check.due("move", f.move(0, 1, -32000, 32000), true);
        Check.due("x", f.at(0, 1, 0), -32000);
        Check.due("y", f.at(0, 1, 1), 32000);
        Check.due("other x", f.at(0, 0, 0), 0);
    }

    private static void reversing() {
        LetterFoundry f = new LetterFoundry();
        Check.due("no letter", f.reverse(0, 0), false);
        f.letter(1, 0);
        Check.due("no outline", f.reverse(0, 0), false);
        Check.polygon(f, 0, 0, 0, 1, 1);
        Check.outline(f, 0, 10, 11, 0, 20, 21, 1, 30, 31, 0, 40, 41, 2, 50, 51, 2, 60, 61, 0);
        for (int m = 0; m < 3; m++) {
            f.weight(m, 16384);
        }
        f.delta(0, 0, 3, 100, 200);
        f.delta(0, 2, 7, 1000, 2000);
        Check.due("reverse", f.reverse(0, 1), true);
        int[] xs = {0, 1, 10, 60, 50, 40, 30, 20};
        int[] kinds = {0, 0, 0, 0, 2, 2, 0, 1};
        for (int k = 0; k < xs.length; k++) {
            Check.due("x of " + k, f.at(0, k, 0), xs[k]);
            Check.due("y of " + k, f.at(0, k, 1), xs[k] < 10 ? xs[k] : xs[k] + 1);
            Check.due("kind of " + k, f.at(0, k, 2), kinds[k]);
        }
        Check.due("delta x of 20", f.mixed(0, 7, 0), 120);
        Check.due("delta y of 20", f.mixed(0, 7, 1), 221);
        Check.due("delta x of 60", f.mixed(0, 3, 0), 1060);
        Check.due("delta y of 60", f.mixed(0, 3, 1), 2061);
        f.outline(0);
        f.point(0, 0, 0, 0);
        Check.due("an open one", f.reverse(0, 2), false);
        Check.due("outline -1", f.reverse(0, -1), false);
    }

    private static void asking() {
        LetterFoundry f = new LetterFoundry();
        f.letter(1, 0);
        Check.polygon(f, 0, 0, 0, 1, 2);
        Check.outline(f, 0, 3, 4, 0, 5, 6, 1);
        f.outline(0);
        f.point(0, 7, 7, 0);
        Check.due("outline of 1", f.at(0, 1, 3), 0);
        Check.due("outline of 2", f.at(0, 2, 3), 1);
        Check.due("x of 3", f.at(0, 3, 0), 5);
        Check.due("y of 3", f.at(0, 3, 1), 6);
        Check.due("kind of 3", f.at(0, 3, 2), 1);
        Check.due("open", f.at(0, 4, 0), -100000);
        Check.due("what 4", f.at(0, 0, 4), -100000);
        Check.due("what -1", f.at(0, 0, -1), -100000);
        Check.due("letter 1", f.at(1, 0, 0), -100000);
        Check.due("point -1", f.at(0, -1, 0), -100000);
        f.letter(2, 0);
        f.part(1, 0, 0, 0);
        Check.due("not its own", f.at(1, 0, 0), -100000);
    }
}
