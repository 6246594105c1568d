/** Terms I and II, promises 1 to 13: the last that is taken, the first that is refused. */
public final class EdgesOfLettersTest {
    private static final int LETTERS = Bench.RICH_LETTERS;
    private static final int[][] FAR = {{32000, 32000}, {32000, -32000}, {-32000, 32000}, {-32000, -32000}};

    public static void main(String[] args) {
        newObject();
        codesAndWidths();
        thirtyTwoLetters();
        finding();
        outlines();
        eightOutlines();
        points();
        hundredPoints();
        closing();
        allKinds();
        dropping();
        moving();
        reversing();
        Check.end();
    }

    // "No LETTERS, no RULES, an empty LINE."
    private static void newObject() {
        Same.Script nothing = f -> { };
        Edge.taken("no letters", nothing, 0, f -> f.letter(0, 0));
        Edge.taken("no rules", nothing, 1, f -> f.join(0, 0, -1, 0));
        Edge.taken("an empty line", nothing, 1, f -> f.sign(0));
        Edge.taken("which sets nothing", nothing, 0, f -> f.set());
        for (int l : new int[] {-1, 0, 1, 31}) {
            Edge.refused("no letter", nothing, -2, f -> f.info(l, 0));
            Edge.refused("no letter", nothing, -1, f -> f.outline(l));
        }
    }

    // "each with a CODE (0 .. 65535) of its own, a WIDTH (0 .. 32000)"
    private static void codesAndWidths() {
        Edge.numbers("code", Bench.FEW, 0, 65535, -1, (f, code) -> f.letter(code, 5));
        Edge.numbers("width", Bench.FEW, 0, 32000, -1, (f, width) -> f.letter(5, width));
        for (int[] made : new int[][] {{0, 0}, {65535, 32000}}) {
            LetterFoundry f = Edge.made(Bench.FEW);
            Check.due("letter", f.letter(made[0], made[1]), 2);
            Check.due("found", f.find(made[0]), 2);
            Check.due("code", f.info(2, 0), made[0]);
            Check.due("width", f.info(2, 1), made[1]);
        }
        Edge.refused("the first code is there", Bench.FEW, -1, f -> f.letter(7, 5));
        Edge.refused("the last code is there", Bench.FEW, -1, f -> f.letter(8, 5));
        Edge.refused("with its own width, too", Bench.FEW, -1, f -> f.letter(8, 80));
        Edge.refused("both can't be", Bench.FEW, -1, f -> f.letter(-1, -1));
        Edge.taken("the next code", Bench.FEW, 2, f -> f.letter(9, 5));
        Edge.taken("a refused code is free", Bench.FEW, 2, f -> f.letter(9, -1) + 1 + f.letter(9, 0));
    }

    // "LETTERS 0, 1, .. (32 at most)"; "or there are 32"
    private static void thirtyTwoLetters() {
        Same.Script nearly = f -> {
            for (int k = 0; k < 31; k++) {
                f.letter(100 + k, k);
            }
        };
        Same.Script full = f -> {
            nearly.play(f);
            f.letter(131, 31);
        };
        Edge.refused("letter 31 isn't there yet", nearly, -2, f -> f.info(31, 0));
        Edge.taken("the 32nd", nearly, 31, f -> f.letter(131, 31));
        Edge.taken("it is there", full, 131, f -> f.info(31, 0));
        Edge.taken("it can be used", full, 0, f -> f.outline(31));
        Edge.refused("a 33rd", full, -1, f -> f.letter(132, 0));
        Edge.refused("a 33rd of a code that is there", full, -1, f -> f.letter(131, 31));
        Edge.refused("a 33rd of code 0", full, -1, f -> f.letter(0, 0));
        Edge.refused("letter 32", full, -2, f -> f.info(32, 0));
        Edge.refused("letter 32", full, -1, f -> f.outline(32));
        Edge.refused("the 33rd code", full, -1, f -> f.find(132));
        Edge.taken("the first code", full, 0, f -> f.find(100));
        Edge.taken("the last code", full, 31, f -> f.find(131));
    }

    // "The LETTER of a CODE; NONE."
    private static void finding() {
        for (int code : new int[] {Integer.MIN_VALUE, -1, 6, 9, 65535, 65536, Integer.MAX_VALUE}) {
            Edge.refused("find " + code, Bench.FEW, -1, f -> f.find(code));
        }
        Edge.taken("find 7", Bench.FEW, 0, f -> f.find(7));
        Edge.taken("find 8", Bench.FEW, 1, f -> f.find(8));
    }

    // "NONE: no such LETTER, one is open, it has PARTS, or there are 8"
    private static void outlines() {
        Edge.noLetter("outline", Bench.RICH, LETTERS, -1, LetterFoundry::outline);
        Edge.taken("the last letter", Bench.RICH, 0, f -> f.outline(LETTERS - 1));
        Edge.taken("behind two closed ones", Bench.RICH, 2, f -> f.outline(0));
        Edge.refused("one is open", Bench.RICH, -1, f -> f.outline(1));
        Edge.refused("one without points is open", Bench.RICH, -1, f -> f.outline(5));
        Edge.refused("two parts", Bench.RICH, -1, f -> f.outline(2));
        Edge.refused("one part", Bench.RICH, -1, f -> f.outline(3));
        Same.Script asPart = Bench.richAnd(f -> f.part(3, 4, 0, 0));
        Edge.taken("a part of another may have one", asPart, 0, f -> f.outline(4));
    }

    // "OUTLINES (8 at most, ..)"
    private static void eightOutlines() {
        Same.Script seven = Bench.richAnd(f -> {
            for (int o = 0; o < 7; o++) {
                Bench.outline(f, 4, o, 0, 0, o, 9, 0);
            }
        });
        Same.Script eight = f -> {
            seven.play(f);
            Bench.outline(f, 4, 7, 0, 0, 7, 9, 0);
        };
        Same.Script eighthOpen = f -> {
            seven.play(f);
            f.outline(4);
            f.point(4, 3, 3, 0);
        };
        Edge.taken("an eighth", seven, 7, f -> f.outline(4));
        Edge.taken("is closed", eight, 8, f -> f.info(4, 2));
        Edge.taken("its points", eight, 7, f -> f.at(4, 15, 3));
        Edge.refused("a ninth", eight, -1, f -> f.outline(4));
        Edge.refused("a ninth behind an open eighth", eighthOpen, -1, f -> f.outline(4));
        Edge.refused("no point of a ninth", eight, -1, f -> f.point(4, 0, 0, 0));
        Edge.taken("reverse the eighth", eight, 1, f -> Edge.of(f.reverse(4, 7)));
        Edge.refused("reverse a ninth", eight, 0, f -> Edge.of(f.reverse(4, 8)));
        Edge.taken("drop the eighth", eight, 7, f -> f.drop(4));
        Edge.taken("drop the open eighth", eighthOpen, 7, f -> f.drop(4));
        Edge.taken("and begin it again", eight, 7, f -> f.drop(4) - 7 + f.outline(4));
        Edge.taken("all are flattened", eight, 16, f -> f.flatten(4, 1));
    }

    // "Places are whole STEPS, -32000 .. 32000"; "A POINT has a kind: 0 ON, 1 TWO, 2 THREE."
    private static void points() {
        Edge.noLetter("point", Bench.RICH, LETTERS, -1, (f, l) -> f.point(l, 0, 0, 0));
        Edge.numbers("x", Bench.RICH, -32000, 32000, -1, (f, x) -> f.point(1, x, 0, 0));
        Edge.numbers("y", Bench.RICH, -32000, 32000, -1, (f, y) -> f.point(1, 0, y, 0));
        Edge.numbers("kind", Bench.RICH, 0, 2, -1, (f, kind) -> f.point(1, 0, 0, kind));
        Edge.taken("a first one", Bench.RICH, 1, f -> f.point(5, 0, 0, 0));
        Edge.taken("a third one", Bench.RICH, 3, f -> f.point(1, 0, 0, 0));
        Edge.refused("all are closed", Bench.RICH, -1, f -> f.point(0, 0, 0, 0));
        Edge.refused("no outline at all", Bench.RICH, -1, f -> f.point(4, 0, 0, 0));
        Edge.refused("parts", Bench.RICH, -1, f -> f.point(2, 0, 0, 0));
        for (int[] far : FAR) {
            LetterFoundry f = Edge.made(Bench.RICH);
            f.point(5, far[0], far[1], 0);
            f.point(5, 0, 0, 1);
            Check.due("close", f.close(5), 0);
            Check.due("x", f.at(5, 0, 0), far[0]);
            Check.due("y", f.at(5, 0, 1), far[1]);
            Check.due("kind", f.at(5, 1, 2), 1);
        }
    }

    // "100 POINTS in all"; "or the LETTER has 100"
    private static void hundredPoints() {
        Same.Script oneOutline = Bench.richAnd(f -> {
            for (int k = 0; k < 99; k++) {
                f.point(5, k, k, 0);
            }
        });
        Same.Script full = f -> {
            oneOutline.play(f);
            f.point(5, 99, 99, 0);
        };
        Edge.taken("the 100th", oneOutline, 100, f -> f.point(5, 99, 99, 0));
        Edge.refused("the 101st", full, -1, f -> f.point(5, 1, 1, 0));
        Edge.taken("all are closed", full, 0, f -> f.close(5));
        Edge.taken("the last is there", full, 99, f -> f.close(5) + f.at(5, 99, 0));
        Edge.taken("all are flattened", full, 100, f -> f.close(5) + f.flatten(5, 1));
        Edge.taken("all are drawn", full, 1, f -> f.close(5) + Edge.of(f.image(5, 1, 32, 0) >= 0));
        Edge.taken("reversed", full, 1, f -> f.close(5) + Edge.of(f.reverse(5, 0)) - 1 + f.at(5, 99, 0));
        Edge.refused("no point 100", full, -100000, f -> f.at(5, 100, 0));
        Edge.taken("another letter's", full, 3, f -> f.point(1, 1, 1, 0));
        // 7 of letter 0 are closed: 93 may come
        Same.Script inAll = Bench.richAnd(f -> {
            f.outline(0);
            for (int k = 0; k < 92; k++) {
                f.point(0, k, k, 0);
            }
        });
        Same.Script fullInAll = f -> {
            inAll.play(f);
            f.point(0, 92, 92, 0);
        };
        Edge.taken("the 100th in all", inAll, 93, f -> f.point(0, 92, 92, 0));
        Edge.refused("the 101st in all", fullInAll, -1, f -> f.point(0, 1, 1, 0));
        Edge.taken("an outline behind it", fullInAll, 3, f -> f.close(0) + f.outline(0));
        Edge.taken("has no room", fullInAll, -1, f -> f.close(0) + f.outline(0) - 3 + f.point(0, 1, 1, 0));
        Edge.taken("dropped ones make room", fullInAll, 1, f -> f.drop(0) - 2 + f.outline(0) - 2 + f.point(0, 1, 1, 0));
    }

    // "-2: no such LETTER, or none is open"; "1 and its first bad POINT (it stays open)"
    private static void closing() {
        Edge.noLetter("close", Bench.RICH, LETTERS, -2, LetterFoundry::close);
        Edge.refused("all are closed", Bench.RICH, -2, f -> f.close(0));
        Edge.refused("no outline at all", Bench.RICH, -2, f -> f.close(4));
        Edge.refused("parts", Bench.RICH, -2, f -> f.close(2));
        Edge.refused("no points: what lacks comes behind them", Bench.RICH, 1, f -> f.close(5));
        Edge.refused("a second THREE lacks", Bench.RICH, 3, f -> f.close(1));
        int[][] bad = {{0}, {1}, {2}, {0, 2}, {0, 1, 1}, {0, 0, 2, 0}, {0, 2, 2, 2}, {1, 0, 0}};
        int[] answers = {2, 1, 1, 3, 3, 4, 4, 1};
        for (int b = 0; b < bad.length; b++) {
            int[] kinds = bad[b];
            Same.Script open = Bench.richAnd(f -> addKinds(f, 5, kinds));
            Edge.refused("bad outline " + b, open, answers[b], f -> f.close(5));
        }
        Same.Script one = Bench.richAnd(f -> f.point(5, 1, 1, 0));
        Edge.taken("two are enough", one, 0, f -> f.point(5, 2, 2, 0) - 2 + f.close(5));
        Edge.taken("of which one may be a TWO", one, 0, f -> f.point(5, 2, 2, 1) - 2 + f.close(5));
        Edge.taken("at one place, too", one, 0, f -> f.point(5, 1, 1, 0) - 2 + f.close(5));
        Edge.taken("what lacks may come", Bench.RICH, 0, f -> f.point(1, 1, 1, 2) - 3 + f.close(1));
    }

    private static void addKinds(LetterFoundry f, int l, int[] kinds) {
        for (int k = 0; k < kinds.length; k++) {
            f.point(l, k, 10 * k, kinds[k]);
        }
    }

    // "An OUTLINE is as it should be, if ..": every row of up to seven kinds, by patterns
    private static void allKinds() {
        for (int length = 0, rows = 1; length <= 7; length++, rows *= 3) {
            for (int row = 0; row < rows; row++) {
                int[] kinds = new int[length];
                StringBuilder text = new StringBuilder();
                for (int k = 0, rest = row; k < length; k++, rest /= 3) {
                    kinds[k] = rest % 3;
                    text.append(kinds[k]);
                }
                for (int ahead = 0; ahead < 3; ahead++) {
                    LetterFoundry f = Edge.made(Bench.FEW);
                    for (int o = 0; o < ahead; o++) {
                        Bench.outline(f, 1, 0, 0, 0, 9, 9, 1);
                    }
                    f.outline(1);
                    addKinds(f, 1, kinds);
                    Check.due("close " + text, f.close(1), closeOf(text.toString()));
                }
            }
        }
    }

    private static int closeOf(String kinds) {
        if (kinds.length() >= 2 && kinds.matches("0(0|10|220)*(1|22)?")) {
            return 0;
        }
        int good = 0;
        while (good < kinds.length() && kinds.substring(0, good + 1).matches("0(0|10|220)*(1|2|22)?")) {
            good++;
        }
        return 1 + good;
    }

    // "NONE: no such LETTER, or it has none"
    private static void dropping() {
        Edge.noLetter("drop", Bench.RICH, LETTERS, -1, LetterFoundry::drop);
        Edge.refused("no outline", Bench.RICH, -1, f -> f.drop(4));
        Edge.refused("parts", Bench.RICH, -1, f -> f.drop(2));
        Edge.taken("the open one", Bench.RICH, 1, f -> f.drop(1));
        Edge.taken("one that is open without points", Bench.RICH, 0, f -> f.drop(5));
        Edge.taken("a closed one", Bench.RICH, 1, f -> f.drop(0));
        Same.Script dropped = Bench.richAnd(f -> {
            f.drop(0);
            f.drop(0);
        });
        Edge.refused("none is left", dropped, -1, f -> f.drop(0));
        Edge.taken("its numbers begin anew", dropped, 0, f -> f.outline(0));
        Edge.taken("no points are left", dropped, 0, f -> f.info(0, 3));
    }

    // "A POINT of closed OUTLINES is at another place: .. false when there is none such, or it can't be"
    private static void moving() {
        Edge.noLetter("move", Bench.RICH, LETTERS, 0, (f, l) -> Edge.of(f.move(l, 0, 1, 1)));
        Edge.numbers("point", Bench.RICH, 0, 6, 0, (f, k) -> Edge.of(f.move(0, k, 1, 1)));
        Edge.numbers("point of one with an open one", Bench.RICH, 0, 3, 0, (f, k) -> Edge.of(f.move(1, k, 1, 1)));
        Edge.numbers("x", Bench.RICH, -32000, 32000, 0, (f, x) -> Edge.of(f.move(0, 6, x, 0)));
        Edge.numbers("y", Bench.RICH, -32000, 32000, 0, (f, y) -> Edge.of(f.move(0, 6, 0, y)));
        for (int l : new int[] {2, 3, 4, 5}) {
            Edge.refused("no points of its own", Bench.RICH, 0, f -> Edge.of(f.move(l, 0, 1, 1)));
        }
        for (int[] far : FAR) {
            LetterFoundry f = Edge.made(Bench.RICH);
            Check.due("move", f.move(0, 6, far[0], far[1]), true);
            Check.due("x", f.at(0, 6, 0), far[0]);
            Check.due("y", f.at(0, 6, 1), far[1]);
            Check.due("kind", f.at(0, 6, 2), 0);
            Check.due("the one ahead stays", f.at(0, 5, 0), 200);
        }
        Edge.refused("to where it is", Bench.RICH, 1, f -> Edge.of(f.move(0, 6, 300, 100)));
    }

    // "The POINTS of a closed OUTLINE stand the other way round (POINT 0 stays; ..)"
    private static void reversing() {
        Edge.noLetter("reverse", Bench.RICH, LETTERS, 0, (f, l) -> Edge.of(f.reverse(l, 0)));
        Edge.numbers("outline", Bench.RICH, 0, 1, 0, (f, o) -> Edge.of(f.reverse(0, o)));
        Edge.numbers("outline ahead of an open one", Bench.RICH, 0, 0, 0, (f, o) -> Edge.of(f.reverse(1, o)));
        for (int l : new int[] {2, 3, 4, 5}) {
            Edge.refused("no closed outline", Bench.RICH, 0, f -> Edge.of(f.reverse(l, 0)));
        }
        Edge.refused("twice is as it was", Bench.RICH, 1, f -> Edge.of(f.reverse(0, 1) && f.reverse(0, 1)));
        Same.Script two = f -> {
            Bench.FEW.play(f);
            Bench.outline(f, 0, 1, 2, 0, 3, 4, 1);
        };
        Edge.refused("two points stand as they stood", two, 1, f -> Edge.of(f.reverse(0, 0)));
        for (int points = 3; points <= 7; points++) {
            reversed(points);
        }
    }

    // "DELTAS go with their POINTS": each has a place, a kind and DELTAS of its own
    private static void reversed(int points) {
        LetterFoundry f = Edge.made(Bench.FEW);
        Bench.outline(f, 0, 1, 1, 0, 2, 2, 0);
        f.outline(0);
        for (int k = 0; k < points; k++) {
            f.point(0, 10 * k, 20 * k, k == 1 ? 1 : 0);
        }
        Check.due("close", f.close(0), 0);
        for (int k = 0; k < points; k++) {
            for (int m = 0; m < 3; m++) {
                f.delta(0, m, 2 + k, 100 * m + k, -100 * m - k);
            }
        }
        Check.due("reverse", f.reverse(0, 1), true);
        for (int m = 0; m < 3; m++) {
            f.weight(0, m == 0 ? 16384 : 0);
            f.weight(1, m == 1 ? 16384 : 0);
            f.weight(2, m == 2 ? 16384 : 0);
            for (int k = 0; k < points; k++) {
                int was = k == 0 ? 0 : points - k;
                Check.due("x of " + k, f.at(0, 2 + k, 0), 10 * was);
                Check.due("y of " + k, f.at(0, 2 + k, 1), 20 * was);
                Check.due("kind of " + k, f.at(0, 2 + k, 2), was == 1 ? 1 : 0);
                Check.due("mixed x of " + k, f.mixed(0, 2 + k, 0), 10 * was + 100 * m + was);
                Check.due("mixed y of " + k, f.mixed(0, 2 + k, 1), 20 * was - 100 * m - was);
            }
        }
        Check.due("the outline ahead stays", f.at(0, 1, 0), 2);
    }
}
