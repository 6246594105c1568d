/** Promises 29 to 32: classOf, kern, exception, kerning. */
public final class KerningTest {
    public static void main(String[] args) {
        refusals();
        classes();
        exceptions();
        allLetters();
        Check.end();
    }

    private static LetterFoundry withLetters() {
        LetterFoundry f = new LetterFoundry();
        f.letter(1, 10);
        f.letter(2, 20);
        f.letter(3, 30);
        return f;
    }

    private static void refusals() {
        LetterFoundry f = withLetters();
        Check.due("letter 3", f.classOf(3, 0, 0), false);
        Check.due("letter -1", f.classOf(-1, 0, 0), false);
        Check.due("side 2", f.classOf(0, 2, 0), false);
        Check.due("side -1", f.classOf(0, -1, 0), false);
        Check.due("class 16", f.classOf(0, 0, 16), false);
        Check.due("class -1", f.classOf(0, 1, -1), false);
        Check.due("class 16", f.kern(16, 0, 0), false);
        Check.due("class 16", f.kern(0, 16, 0), false);
        Check.due("class -1", f.kern(-1, 0, 0), false);
        Check.due("class -1", f.kern(0, -1, 0), false);
        Check.due("by", f.kern(0, 0, 2001), false);
        Check.due("by", f.kern(0, 0, -2001), false);
        Check.due("by", f.kern(0, 0, 10000), false);
        Check.due("letter 3", f.exception(3, 0, 0), false);
        Check.due("letter 3", f.exception(0, 3, 0), false);
        Check.due("letter -1", f.exception(-1, 0, 0), false);
        Check.due("letter -1", f.exception(0, -1, 0), false);
        Check.due("by", f.exception(0, 0, 2001), false);
        Check.due("by", f.exception(0, 0, -2001), false);
        Check.due("by", f.exception(0, 0, 9999), false);
        Check.due("by", f.exception(0, 0, 10001), false);
        Check.due("nothing told", f.kerning(0, 0), 0);
        Check.due("letter 3", f.kerning(3, 0), 0);
        Check.due("letter 3", f.kerning(0, 3), 0);
        Check.due("letter -1", f.kerning(-1, -1), 0);
    }

    private static void classes() {
        LetterFoundry f = withLetters();
        Check.due("of classes 0", f.kern(0, 0, 7), true);
        Check.due("all have it at first", f.kerning(1, 2), 7);
        Check.due("right class", f.classOf(0, 1, 15), true);
        Check.due("left class", f.classOf(1, 0, 3), true);
        Check.due("kern", f.kern(15, 3, -2000), true);
        Check.due("0 1", f.kerning(0, 1), -2000);
        Check.due("1 0", f.kerning(1, 0), 7);
        Check.due("0 2", f.kerning(0, 2), 0);
        Check.due("2 1", f.kerning(2, 1), 0);
        Check.due("kern", f.kern(15, 0, 2000), true);
        Check.due("0 2", f.kerning(0, 2), 2000);
        Check.due("0 0", f.kerning(0, 0), 2000);
        Check.due("again", f.kern(15, 3, 0), true);
        Check.due("0 1", f.kerning(0, 1), 0);
        Check.due("letter 3 isn't there", f.kerning(2, 3), 0);
    }

    private static void allLetters() {
        LetterFoundry f = new LetterFoundry();
        for (int k = 0; k < 32; k++) {
            f.letter(k, 0);
        }
        f.classOf(31, 0, 15);
        f.kern(0, 15, 9);
        Check.due("0 31", f.kerning(0, 31), 9);
        Check.due("31 31", f.kerning(31, 31), 9);
        f.kern(0, 0, 4);
        Check.due("31 0", f.kerning(31, 0), 4);
        Check.due("exception", f.exception(31, 31, -1), true);
        Check.due("31 31", f.kerning(31, 31), -1);
        Check.due("letter 32", f.exception(32, 31, 1), false);
        Check.due("letter 32", f.kerning(31, 32), 0);
    }

    private static void exceptions() {
        LetterFoundry f = withLetters();
        f.kern(0, 0, 50);
        Check.due("exception", f.exception(0, 1, 0), true);
        Check.due("0 1", f.kerning(0, 1), 0);
        Check.due("1 0", f.kerning(1, 0), 50);
        Check.due("exception", f.exception(0, 1, -2000), true);
        Check.due("0 1", f.kerning(0, 1), -2000);
        Check.due("itself", f.exception(1, 1, 2000), true);
        Check.due("1 1", f.kerning(1, 1), 2000);
        Check.due("no more", f.exception(0, 1, 10000), true);
        Check.due("0 1", f.kerning(0, 1), 50);
        Check.due("none there", f.exception(2, 0, 10000), true);
        Check.due("2 0", f.kerning(2, 0), 50);
    }
}
