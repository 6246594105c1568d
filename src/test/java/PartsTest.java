/** Promises 10 and 11: part, matrix. */
public final class PartsTest {
    public static void main(String[] args) {
        refusals();
        depths();
        matrices();
        nested();
        laterOutlines();
        actsAhead();
        Check.end();
    }

    private static LetterFoundry with(int letters) {
        LetterFoundry f = new LetterFoundry();
        for (int k = 0; k < letters; k++) {
            f.letter(k, 0);
        }
        return f;
    }

    private static void refusals() {
        LetterFoundry f = with(4);
        Check.due("no such l", f.part(4, 0, 0, 0), -1);
        Check.due("no such of", f.part(0, 4, 0, 0), -1);
        Check.due("l -1", f.part(-1, 0, 0, 0), -1);
        Check.due("itself", f.part(0, 0, 0, 0), -1);
        Check.due("dx", f.part(0, 1, 32001, 0), -1);
        Check.due("dx", f.part(0, 1, -32001, 0), -1);
        Check.due("dy", f.part(0, 1, 0, 32001), -1);
        Check.due("dy", f.part(0, 1, 0, -32001), -1);
        Check.due("refused ones are no parts", f.part(1, 2, 0, 0), 0);
        f.outline(0);
        Check.due("an open outline", f.part(0, 1, 0, 0), -1);
        f.drop(0);
        Check.due("the edge", f.part(0, 1, -32000, 32000), 0);
        Check.due("is a part", f.part(1, 3, 0, 0), -1);
        Check.due("is a part", f.part(2, 3, 0, 0), -1);
        for (int k = 1; k < 6; k++) {
            Check.due("part", f.part(0, 3, 0, 0), k);
        }
        Check.due("a seventh", f.part(0, 3, 0, 0), -1);
        Check.due("parts", f.info(0, 4), 6);
        Check.due("matrix of the last", f.matrix(0, 5, 1, 1, 1, 1), true);
        Check.due("matrix of none", f.matrix(0, 6, 1, 1, 1, 1), false);
        Check.due("matrix of none", f.matrix(0, 7, 1, 1, 1, 1), false);
    }

    private static void depths() {
        LetterFoundry f = with(8);
        for (int k = 1; k <= 4; k++) {
            Check.due("part", f.part(k, k - 1, 0, 0), 0);
            Check.due("depth", f.info(k, 5), k);
        }
        Check.due("of depth 4", f.part(5, 4, 0, 0), -1);
        Check.due("of depth 1", f.part(5, 1, 0, 0), 0);
        Check.due("depth", f.info(5, 5), 2);
        Check.due("of depth 0", f.part(5, 7, 0, 0), 1);
        Check.due("depth stays", f.info(5, 5), 2);
        Check.due("of depth 3", f.part(5, 3, 0, 0), 2);
        Check.due("depth grows", f.info(5, 5), 4);
        Check.due("letter 4 is a part of none", f.part(4, 7, 0, 0), 1);
    }

    private static void matrices() {
        LetterFoundry f = with(2);
        Check.polygon(f, 0, 3, 5, 100, 7, 50, 90);
        Check.due("no part yet", f.matrix(1, 0, 0, 0, 0, 0), false);
        f.part(1, 0, 1000, -2000);
        Check.due("no letter", f.matrix(2, 0, 0, 0, 0, 0), false);
        Check.due("part 1", f.matrix(1, 1, 0, 0, 0, 0), false);
        Check.due("part -1", f.matrix(1, -1, 0, 0, 0, 0), false);
        for (int k = 0; k < 4; k++) {
            for (int bad : new int[] {-32769, 32768}) {
                int[] m = {1, 1, 1, 1};
                m[k] = bad;
                Check.due("bad matrix", f.matrix(1, 0, m[0], m[1], m[2], m[3]), false);
            }
        }
        f.flatten(1, 1);
        Check.due("x", f.flat(0, 1), 1003);
        Check.due("y", f.flat(0, 2), -1995);
        f.move(0, 1, 32000, 31000);
        f.flatten(1, 1);
        Check.due("x by the first matrix", f.flat(1, 1), 33000);
        Check.due("y by the first matrix", f.flat(1, 2), 29000);
        Check.due("matrix", f.matrix(1, 0, -32768, 32767, 8192, 24576), true);
        f.flatten(1, 1);
        // x: (-32768 * 3 + 32767 * 5) / 16384 = 3.9997; y: (8192 * 3 + 24576 * 5) / 16384 = 9
        Check.due("x", f.flat(0, 1), 1004);
        Check.due("y", f.flat(0, 2), -1991);
        f.matrix(1, 0, 8192, 0, 0, -8192);
        f.flatten(1, 1);
        // 1.5 and -2.5 go to the even ones
        Check.due("x", f.flat(0, 1), 1002);
        Check.due("y", f.flat(0, 2), -2002);
    }

    private static void nested() {
        LetterFoundry f = with(3);
        Check.polygon(f, 0, 1, 0, 101, 0, 101, 100);
        f.part(1, 0, 10, 0);
        f.part(2, 1, 100, 7);
        f.matrix(1, 0, 8192, 0, 0, 8192);
        f.matrix(2, 0, 0, -16384, 16384, 0);
        f.flatten(2, 1);
        // 1 is halved to 0 (even) first, then 10 is added, then it is turned
        Check.due("x", f.flat(0, 1), 100);
        Check.due("y", f.flat(0, 2), 17);
        Check.due("x", f.flat(2, 1), 50);
        Check.due("y", f.flat(2, 2), 67);
        f.part(2, 0, 0, 0);
        Check.due("both", f.flatten(2, 1), 6);
        Check.due("in their order", f.flat(3, 1), 1);
    }

    private static void laterOutlines() {
        LetterFoundry f = with(2);
        f.part(1, 0, 5, 5);
        Check.due("nothing there", f.flatten(1, 1), 0);
        Check.polygon(f, 0, 0, 0, 10, 0, 10, 10);
        Check.due("a part may get outlines", f.flatten(1, 1), 3);
        Check.due("x", f.flat(0, 1), 5);
    }

    private static void actsAhead() {
        LetterFoundry f = with(2);
        f.act(1, 30, 0);
        Check.due("acts don't matter", f.part(1, 0, 0, 0), 0);
        Check.due("acts stay", f.info(1, 7), 1);
        Check.due("no run", f.run(1, 8), -1);
        Check.due("no act", f.act(1, 0, 0), -1);
        Check.due("wipe", f.wipe(1), 1);
    }
}
