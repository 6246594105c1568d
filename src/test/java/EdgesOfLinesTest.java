/** Term VII, promises 29 to 37: the last that is taken, the first that is refused. */
public final class EdgesOfLinesTest {
    private static final int LETTERS = Bench.RICH_LETTERS;

    public static void main(String[] args) {
        classes();
        kerns();
        exceptions();
        kernings();
        joins();
        fortyRules();
        signs();
        sixtySigns();
        rulesAtTheEnd();
        missingLetters();
        placed();
        lengths();
        Check.end();
    }

    // "a left and a right CLASS (0 .. 15; 0 at first)"; "left (side 0) or right (1)"
    private static void classes() {
        Edge.noLetter("classOf", Bench.RICH, LETTERS, 0, (f, l) -> Edge.of(f.classOf(l, 0, 1)));
        Edge.taken("the last letter", Bench.RICH, 1, f -> Edge.of(f.classOf(LETTERS - 1, 0, 1)));
        Edge.numbers("side", Bench.RICH, 0, 1, 0, (f, side) -> Edge.of(f.classOf(0, side, 1)));
        Edge.numbers("left class", Bench.RICH, 0, 15, 0, (f, c) -> Edge.of(f.classOf(0, 0, c)));
        Edge.numbers("right class", Bench.RICH, 0, 15, 0, (f, c) -> Edge.of(f.classOf(0, 1, c)));
        Same.Script told = f -> {
            Bench.FEW.play(f);
            f.kern(0, 0, 5);
        };
        Edge.taken("0 at first", told, 5, f -> f.kerning(1, 0));
        Edge.taken("another left class", told, 0, f -> Edge.of(f.classOf(0, 0, 15)) - 1 + f.kerning(1, 0));
        Edge.taken("another right class", told, 0, f -> Edge.of(f.classOf(1, 1, 15)) - 1 + f.kerning(1, 0));
        Edge.taken("the left class of l", told, 5, f -> Edge.of(f.classOf(1, 0, 15)) - 1 + f.kerning(1, 0));
        Edge.taken("the right class of m", told, 5, f -> Edge.of(f.classOf(0, 1, 15)) - 1 + f.kerning(1, 0));
    }

    // "What is told of a right CLASS and a left one (-2000 .. 2000): true; false when it can't be."
    private static void kerns() {
        Edge.numbers("right", Bench.RICH, 0, 15, 0, (f, c) -> Edge.of(f.kern(c, 0, 1)));
        Edge.numbers("left", Bench.RICH, 0, 15, 0, (f, c) -> Edge.of(f.kern(0, c, 1)));
        Edge.numbers("by", Bench.RICH, -2000, 2000, 0, (f, by) -> Edge.of(f.kern(4, 15, by)));
        Edge.refused("nothing is for exceptions", Bench.RICH, 0, f -> Edge.of(f.kern(4, 15, 10000)));
        for (int by : new int[] {-2000, 0, 2000}) {
            Edge.taken("by " + by, Bench.RICH, by, f -> Edge.of(f.kern(4, 15, by)) - 1 + f.kerning(0, 1));
        }
        Edge.taken("of all classes", Bench.FEW, 2000, f -> {
            f.classOf(0, 1, 15);
            f.classOf(1, 0, 15);
            f.kern(15, 15, 2000);
            return f.kerning(0, 1);
        });
    }

    // "What is told of two LETTERS (-2000 .. 2000; 10000: nothing any more): true; false when it can't be."
    private static void exceptions() {
        Edge.noLetter("exception of", Bench.RICH, LETTERS, 0, (f, l) -> Edge.of(f.exception(l, 0, 1)));
        Edge.noLetter("exception with", Bench.RICH, LETTERS, 0, (f, m) -> Edge.of(f.exception(0, m, 1)));
        Edge.noLetter("nothing of", Bench.RICH, LETTERS, 0, (f, l) -> Edge.of(f.exception(l, 0, 10000)));
        Edge.noLetter("nothing with", Bench.RICH, LETTERS, 0, (f, m) -> Edge.of(f.exception(0, m, 10000)));
        Edge.numbers("by", Bench.RICH, -2000, 2000, 0, (f, by) -> Edge.of(f.exception(0, 1, by)));
        for (int bad : new int[] {9999, 10001, -10000}) {
            Edge.refused("by " + bad, Bench.RICH, 0, f -> Edge.of(f.exception(0, 2, bad)));
        }
        for (int by : new int[] {-2000, 0, 2000}) {
            Edge.taken("by " + by, Bench.RICH, by, f -> Edge.of(f.exception(0, 1, by)) - 1 + f.kerning(0, 1));
        }
        Edge.taken("nothing any more", Bench.RICH, 0, f -> Edge.of(f.exception(0, 2, 10000)) - 1 + f.kerning(0, 2));
        Edge.refused("nothing of what has none", Bench.RICH, 1, f -> Edge.of(f.exception(0, 1, 10000)));
        Edge.taken("the classes stay told", Bench.RICH, 2, f -> {
            f.exception(2, 2, 50);
            f.exception(2, 2, 10000);
            return f.kerning(2, 2);
        });
        Same.Script full = f -> {
            for (int k = 0; k < 32; k++) {
                f.letter(k, 0);
            }
        };
        Edge.taken("of the 32nd", full, 9, f -> Edge.of(f.exception(31, 31, 9)) - 1 + f.kerning(31, 31));
        Edge.refused("of a 33rd", full, 0, f -> Edge.of(f.exception(31, 32, 9)));
    }

    // "KERNING; 0, too, when there are no such LETTERS."
    private static void kernings() {
        Same.Script told = Bench.richAnd(f -> {
            f.kern(0, 0, 2);
            f.kern(4, 0, 3);
            f.kern(0, 3, 4);
        });
        Edge.noLetter("kerning of", told, LETTERS, 0, (f, l) -> f.kerning(l, 4));
        Edge.noLetter("kerning with", told, LETTERS, 0, (f, m) -> f.kerning(4, m));
        Edge.noLetter("kerning of none", told, LETTERS, 0, (f, l) -> f.kerning(l, l));
        Edge.taken("an exception of 0", told, 0, f -> f.kerning(1, 1));
        Edge.taken("an exception", told, 77, f -> f.kerning(0, 2));
        Edge.taken("not the other way round", told, 4, f -> f.kerning(2, 0));
        Edge.taken("nothing told of the classes", told, 0, f -> f.kerning(6, 4));
        Edge.taken("letter 4 and itself", told, 2, f -> f.kerning(4, 4));
    }

    // "A RULE more, of a, b and c (NONE for one of two)"; "NONE: a CODE can't be"
    private static void joins() {
        Edge.numbers("a", Bench.RICH, 0, 65535, -1, (f, a) -> f.join(a, 1, 1, 1));
        Edge.numbers("b", Bench.RICH, 0, 65535, -1, (f, b) -> f.join(1, b, 1, 1));
        Edge.numbers("to", Bench.RICH, 0, 65535, -1, (f, to) -> f.join(1, 1, 1, to));
        // NONE is below 0, too
        Edge.numbers("c", Bench.RICH, -1, 65535, -1, (f, c) -> f.join(1, 1, c, 1));
        Edge.numbers("a of two", Bench.RICH, 0, 65535, -1, (f, a) -> f.join(a, 1, -1, 1));
        Edge.numbers("b of two", Bench.RICH, 0, 65535, -1, (f, b) -> f.join(1, b, -1, 1));
        Edge.numbers("to of two", Bench.RICH, 0, 65535, -1, (f, to) -> f.join(1, 1, -1, to));
        Edge.taken("how many", Bench.RICH, 4, f -> f.join(65535, 65535, 65535, 65535));
        Edge.taken("of the same codes again", Bench.RICH, 4, f -> f.join(1, 2, -1, 12));
        Edge.taken("codes need no letters", Bench.FEW, 1, f -> f.join(0, 1, 2, 3));
    }

    // "RULES: .. (40 at most)"; "or there are 40"
    private static void fortyRules() {
        Same.Script nearly = f -> {
            Bench.FEW.play(f);
            for (int k = 0; k < 39; k++) {
                f.join(1000 + k, 1, -1, 8);
            }
        };
        Same.Script full = f -> {
            nearly.play(f);
            f.join(1039, 1, -1, 7);
        };
        Edge.taken("the 40th", nearly, 40, f -> f.join(1039, 1, 1, 7));
        Edge.refused("a 41st", full, -1, f -> f.join(7, 7, -1, 8));
        Edge.refused("a 41st of three", full, -1, f -> f.join(7, 7, 7, 8));
        Edge.refused("a 41st that can't be", full, -1, f -> f.join(-1, 7, 7, 8));
        LetterFoundry f = Edge.made(full);
        for (int code : new int[] {1000, 1, 1038, 1, 1039, 1, 7, 7}) {
            f.sign(code);
        }
        Check.due("the rules are used", f.set(), 5);
        int[] letters = {1, 1, 0, 0, 0};
        for (int k = 0; k < 5; k++) {
            Check.due("letter " + k, f.placed(k, 0), letters[k]);
        }
    }

    // "A sign more of the LINE: how many; NONE: it is no CODE"
    private static void signs() {
        Edge.numbers("code", Bench.RICH, 0, 65535, -1, LetterFoundry::sign);
        Edge.taken("the third", Bench.RICH, 3, f -> f.sign(1));
        Edge.taken("a code without a letter", Bench.RICH, 3, f -> f.sign(60001));
    }

    // "A LINE has up to 60 signs"; "or there are 60"; "The LINE is SET, and empty then"
    private static void sixtySigns() {
        Same.Script nearly = f -> {
            Bench.FEW.play(f);
            for (int k = 0; k < 59; k++) {
                f.sign(7);
            }
        };
        Same.Script full = f -> {
            nearly.play(f);
            f.sign(8);
        };
        Edge.taken("the 60th", nearly, 60, f -> f.sign(8));
        Edge.refused("a 61st", full, -1, f -> f.sign(7));
        Edge.refused("a 61st of no code", full, -1, f -> f.sign(-1));
        Edge.taken("59 letters", nearly, 59, f -> f.set());
        Edge.taken("60 letters", full, 60, f -> f.set());
        Edge.taken("the last letter", full, 1, f -> f.set() - 60 + f.placed(59, 0));
        Edge.taken("where it is", full, 59 * 70, f -> f.set() - 60 + f.placed(59, 1));
        Edge.taken("its sign", full, 59, f -> f.set() - 60 + f.placed(59, 2));
        Edge.taken("no letter 60", full, -1000000, f -> f.set() - 60 + f.placed(60, 0));
        Edge.taken("the length", full, 59 * 70 + 80, f -> f.set() - 60 + f.length());
        Edge.taken("empty then", full, 1, f -> f.set() - 60 + f.sign(7));
        Edge.taken("set again", full, 0, f -> f.set() - 60 + f.set());
    }

    // "the RULE of the most CODES that are the signs from there on, the first of several": at the line's end
    private static void rulesAtTheEnd() {
        Same.Script rules = f -> {
            f.letter(1, 1);
            f.letter(2, 2);
            f.letter(3, 3);
            f.letter(4, 4);
            f.join(1, 1, -1, 2);
            f.join(1, 1, 1, 3);
            f.join(1, 1, -1, 4);
            f.join(1, 1, 1, 4);
        };
        // ones in a row: threes first, then what is left
        int[][] letters = {{}, {0}, {1}, {2}, {2, 0}, {2, 1}, {2, 2}, {2, 2, 0}};
        for (int ones = 0; ones < letters.length; ones++) {
            LetterFoundry f = Edge.made(rules);
            for (int k = 0; k < ones; k++) {
                f.sign(1);
            }
            Check.due("letters of " + ones, f.set(), letters[ones].length);
            for (int k = 0; k < letters[ones].length; k++) {
                Check.due("letter", f.placed(k, 0), letters[ones][k]);
                Check.due("first sign", f.placed(k, 2), 3 * k);
            }
        }
        // signs of an earlier line don't count
        LetterFoundry f = Edge.made(rules);
        for (int k = 0; k < 3; k++) {
            f.sign(1);
        }
        f.set();
        f.sign(1);
        Check.due("one sign", f.set(), 1);
        Check.due("is its letter", f.placed(0, 0), 0);
        // all 60 signs: twenty threes, and two of 59 at the end
        LetterFoundry g = Edge.made(rules);
        for (int k = 0; k < 60; k++) {
            g.sign(1);
        }
        Check.due("sixty ones", g.set(), 20);
        Check.due("the last three", g.placed(19, 2), 57);
        for (int k = 0; k < 59; k++) {
            g.sign(1);
        }
        Check.due("fifty-nine ones", g.set(), 20);
        Check.due("the last two", g.placed(19, 0), 1);
    }

    // "of a CODE without a LETTER (a RULE's, too) it is that with CODE 0, or nothing"
    private static void missingLetters() {
        Same.Script none = f -> {
            f.letter(1, 10);
            f.join(2, 2, -1, 9);
            for (int code : new int[] {9, 2, 2, 0}) {
                f.sign(code);
            }
        };
        Edge.taken("nothing", none, 0, f -> f.set());
        Edge.taken("no length", none, 0, f -> f.set() + f.length());
        Edge.taken("empty all the same", none, 1, f -> f.set() + f.sign(1));
        Edge.taken("with code 0", none, 3, f -> f.letter(0, 5) - 1 + f.set());
        Edge.taken("its widths", none, 15, f -> f.letter(0, 5) - 1 + f.set() - 3 + f.length());
        Edge.taken("the rule's", none, 1, f -> f.letter(0, 5) - 1 + f.set() - 3 + f.placed(1, 2));
        Edge.taken("a letter of width 0", none, 0, f -> f.letter(0, 0) - 1 + f.set() - 3 + f.length());
    }

    // "-1000000 when there is none such"
    private static void placed() {
        // of 1 2 3 1 2 900 5 5 1: the RULE of three, that of two, code 0, code 0 (999), and 1
        LetterFoundry f = Edge.made(Bench.RICH);
        int[][] dues = {{3, 0, 0}, {4, 350 + 2, 3}, {6, 802 + 2, 5}, {6, 1454, 6}, {0, 2104, 8}};
        for (int k = 0; k < dues.length; k++) {
            for (int what = 0; what < 3; what++) {
                Check.due("placed " + k + " " + what, f.placed(k, what), dues[k][what]);
            }
        }
        Edge.numbers("k", Bench.RICH, 0, 4, -1000000, (g, k) -> g.placed(k, 0));
        Edge.numbers("what", Bench.RICH, 0, 2, -1000000, (g, what) -> g.placed(4, what));
        Edge.refused("ahead of any", Bench.FEW, -1000000, g -> g.placed(0, 0));
        Edge.taken("of the latest", Bench.RICH, -1000000, g -> g.set() - 2 + g.placed(2, 0));
        Edge.taken("of an empty one", Bench.RICH, -1000000, g -> g.set() - 2 + g.set() + g.placed(0, 0));
        Edge.taken("new kerning isn't of it", Bench.RICH, 352, g -> Edge.of(g.exception(3, 4, 500)) - 1 + g.placed(1, 1));
    }

    // "Where the LETTER that would come behind the last one stands, without KERNING (0 without LETTERS)."
    private static void lengths() {
        Edge.refused("ahead of any", Bench.FEW, 0, f -> f.length());
        Edge.taken("of five letters", Bench.RICH, 2104 + 50, f -> f.length());
        Edge.taken("of an empty line", Bench.RICH, 0, f -> f.set() - 2 + f.set() + f.length());
        Same.Script below = f -> {
            f.letter(1, 0);
            f.exception(0, 0, -2000);
            for (int k = 0; k < 60; k++) {
                f.sign(1);
            }
        };
        Edge.taken("the farthest below 0", below, -59 * 2000, f -> f.set() - 60 + f.length());
        Same.Script above = f -> {
            f.letter(1, 32000);
            f.exception(0, 0, 2000);
            for (int k = 0; k < 60; k++) {
                f.sign(1);
            }
        };
        Edge.taken("the farthest", above, 59 * 34000 + 32000, f -> f.set() - 60 + f.length());
        Edge.taken("one letter has no kerning", below, 0, f -> f.set() - 60 + f.sign(1) - 1 + f.set() - 1 + f.length());
    }
}
