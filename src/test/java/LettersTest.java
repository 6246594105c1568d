/** Promises 1, 2, 3 and 12: a new object, letter, find, info. */
public final class LettersTest {
    public static void main(String[] args) {
        newObject();
        letters();
        infos();
        Check.end();
    }

    private static void newObject() {
        LetterFoundry f = new LetterFoundry();
        Check.due("NONE", LetterFoundry.NONE, -1);
        Check.due("find", f.find(0), -1);
        Check.due("info", f.info(0, 0), -2);
        Check.due("at", f.at(0, 0, 0), -100000);
        Check.due("flat", f.flat(0, 0), -1000000);
        Check.due("area", f.area(), 0);
        Check.due("winding", f.winding(0, 0), 0);
        Check.due("crossings", f.crossings(), 0);
        Check.due("dot", f.dot(0, 0), 0);
        Check.due("box", f.box(0), -1000);
        Check.due("fitted", f.fitted(0, 0), -2000000000);
        Check.due("kerning", f.kerning(0, 0), 0);
        Check.due("placed", f.placed(0, 0), -1000000);
        Check.due("length", f.length(), 0);
        Check.due("set", f.set(), 0);
        Check.due("first rule", f.join(1, 2, -1, 3), 1);
        Check.due("first sign", f.sign(1), 1);
    }

    private static void letters() {
        LetterFoundry f = new LetterFoundry();
        Check.due("code -1", f.letter(-1, 0), -1);
        Check.due("code 65536", f.letter(65536, 0), -1);
        Check.due("width -1", f.letter(7, -1), -1);
        Check.due("width 32001", f.letter(7, 32001), -1);
        Check.due("find a refused one", f.find(7), -1);
        Check.due("code 65535", f.letter(65535, 32000), 0);
        Check.due("code there", f.letter(65535, 1), -1);
        Check.due("width stays", f.info(0, 1), 32000);
        for (int k = 1; k < 32; k++) {
            Check.due("letter " + k, f.letter(k - 1, k), k);
        }
        Check.due("a 33rd", f.letter(500, 0), -1);
        Check.due("find 0", f.find(0), 1);
        Check.due("find 30", f.find(30), 31);
        Check.due("find 31", f.find(31), -1);
        Check.due("find 65535", f.find(65535), 0);
        Check.due("find -1", f.find(-1), -1);
        Check.due("letter 32", f.info(32, 0), -2);
        Check.due("letter 33", f.outline(33), -1);
        Check.due("letter 31", f.info(31, 0), 30);
    }

    private static void infos() {
        LetterFoundry f = new LetterFoundry();
        f.letter(65, 600);
        f.letter(66, 700);
        Check.due("code", f.info(0, 0), 65);
        Check.due("width", f.info(1, 1), 700);
        Check.due("not open", f.info(0, 6), -1);
        Check.polygon(f, 0, 0, 0, 10, 0, 10, 10);
        f.outline(0);
        f.point(0, 1, 1, 0);
        Check.due("closed outlines", f.info(0, 2), 1);
        Check.due("closed points", f.info(0, 3), 3);
        Check.due("open points", f.info(0, 6), 1);
        Check.due("parts", f.info(0, 4), 0);
        f.part(1, 0, 0, 0);
        f.part(1, 0, 1, 1);
        Check.due("parts of 1", f.info(1, 4), 2);
        Check.due("own outlines of 1", f.info(1, 2), 0);
        Check.due("own points of 1", f.info(1, 3), 0);
        Check.due("depth of 1", f.info(1, 5), 1);
        Check.due("depth of 0", f.info(0, 5), 0);
        f.act(0, 30, 0);
        Check.due("acts", f.info(0, 7), 1);
        Check.due("what 8", f.info(0, 8), -2);
        Check.due("what -1", f.info(0, -1), -2);
        Check.due("letter 2", f.info(2, 0), -2);
        Check.due("letter -1", f.info(-1, 0), -2);
    }
}
