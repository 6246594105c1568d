/** Promises 33 to 37: join, sign, set, placed, length. */
public final class LineTest {
    public static void main(String[] args) {
        joins();
        signs();
        setting();
        rules();
        missing();
        fullLine();
        Check.end();
    }

    private static void joins() {
        LetterFoundry f = new LetterFoundry();
        int[][] bad = {
            {-1, 1, 1, 1}, {65536, 1, 1, 1}, {1, -1, 1, 1}, {1, 65536, 1, 1}, {1, 1, -2, 1},
            {1, 1, 65536, 1}, {1, 1, 1, -1}, {1, 1, 1, 65536}
        };
        for (int[] b : bad) {
            Check.due("a bad rule", f.join(b[0], b[1], b[2], b[3]), -1);
        }
        for (int k = 1; k <= 40; k++) {
            Check.due("rule", f.join(65535, 0, k % 2 == 0 ? -1 : 65535, 0), k);
        }
        Check.due("rule 41", f.join(1, 1, 1, 1), -1);
    }

    private static void signs() {
        LetterFoundry f = new LetterFoundry();
        Check.due("sign -1", f.sign(-1), -1);
        Check.due("sign 65536", f.sign(65536), -1);
        for (int k = 1; k <= 60; k++) {
            Check.due("sign", f.sign(k % 2 == 0 ? 65535 : 0), k);
        }
        Check.due("sign 61", f.sign(1), -1);
        Check.due("set", f.set(), 0);
        Check.due("empty then", f.sign(1), 1);
    }

    private static void row(LetterFoundry f, int... codes) {
        for (int code : codes) {
            f.sign(code);
        }
    }

    private static void expect(LetterFoundry f, int length, int... letterAtSign) {
        int count = letterAtSign.length / 3;
        Check.due("set", f.set(), count);
        for (int k = 0; k < count; k++) {
            for (int what = 0; what < 3; what++) {
                Check.due("letter " + k + ", " + what, f.placed(k, what), letterAtSign[3 * k + what]);
            }
        }
        Check.due("no more letters", f.placed(count, 0), -1000000);
        Check.due("length", f.length(), length);
    }

    private static void setting() {
        LetterFoundry f = new LetterFoundry();
        f.letter(65, 600);
        f.letter(66, 500);
        f.exception(0, 1, -30);
        f.classOf(1, 1, 4);
        f.kern(4, 0, 11);
        row(f, 65, 66, 65, 65);
        Check.due("not set yet", f.length(), 0);
        expect(f, 600 - 30 + 500 + 11 + 600 + 600, 0, 0, 0, 1, 570, 1, 0, 1081, 2, 0, 1681, 3);
        Check.due("what 3", f.placed(0, 3), -1000000);
        Check.due("what -1", f.placed(0, -1), -1000000);
        Check.due("letter -1", f.placed(-1, 0), -1000000);
        f.sign(66);
        f.kern(4, 0, 500);
        Check.due("the latest stays", f.placed(2, 1), 1081);
        expect(f, 500, 1, 0, 0);
        expect(f, 0);
    }

    private static void rules() {
        LetterFoundry f = new LetterFoundry();
        f.letter(1, 10);
        f.letter(2, 20);
        f.letter(3, 30);
        f.letter(12, 120);
        f.letter(123, 1230);
        f.letter(9, 90);
        f.join(1, 2, -1, 12);
        f.join(1, 2, 3, 123);
        f.join(1, 2, 3, 9);
        f.join(1, 2, -1, 9);
        f.join(12, 3, -1, 9);
        row(f, 1, 2, 3, 1, 2, 2, 1, 2);
        expect(f, 1230 + 120 + 20 + 120, 4, 0, 0, 3, 1230, 3, 1, 1350, 5, 3, 1370, 6);
        row(f, 1, 2);
        expect(f, 120, 3, 0, 0);
        row(f, 1, 1, 2, 3, 3);
        expect(f, 10 + 1230 + 30, 0, 0, 0, 4, 10, 1, 2, 1240, 4);
        row(f, 12, 3);
        expect(f, 90, 5, 0, 0);
    }

    private static void missing() {
        LetterFoundry f = new LetterFoundry();
        f.letter(1, 10);
        f.join(5, 5, -1, 7);
        f.exception(0, 0, -3);
        row(f, 1, 8, 1, 5, 5, 1);
        expect(f, 24, 0, 0, 0, 0, 7, 2, 0, 14, 5);
        f.letter(0, 100);
        f.exception(1, 0, 1);
        row(f, 1, 8, 1, 5, 5, 1);
        expect(f, 10 + 100 + 1 + 10 + 100 + 1 + 10, 0, 0, 0, 1, 10, 1, 0, 111, 2, 1, 121, 3, 0, 222, 5);
        row(f, 0);
        expect(f, 100, 1, 0, 0);
    }

    private static void fullLine() {
        LetterFoundry f = new LetterFoundry();
        f.letter(1, 32000);
        f.exception(0, 0, 2000);
        for (int k = 0; k < 60; k++) {
            f.sign(1);
        }
        Check.due("set", f.set(), 60);
        Check.due("the last one", f.placed(59, 1), 59 * 34000);
        Check.due("its sign", f.placed(59, 2), 59);
        Check.due("length", f.length(), 59 * 34000 + 32000);
    }
}
