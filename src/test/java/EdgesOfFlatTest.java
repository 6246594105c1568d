/** Term III, promises 14 to 18: the last that is taken, the first that is refused. */
public final class EdgesOfFlatTest {
    private static final int LETTERS = Bench.RICH_LETTERS;
    private static final int NINE = 439;

    public static void main(String[] args) {
        numbers();
        roundPieces();
        notAboveT();
        fractionsAboveT();
        tenHalvings();
        exactBehindTenHalvings();
        roundedEnds();
        sameAsTheOneAhead();
        fiveHundredPoints();
        farPoints();
        farCurves();
        latest();
        windings();
        windingNumbers();
        crossings();
        areas();
        ofTheLatestAlone();
        Check.end();
    }

    /** Letter 0 with one outline; letter 1 without any. */
    private static Same.Script outline(int... xyKind) {
        return f -> {
            Bench.FEW.play(f);
            Bench.outline(f, 0, xyKind);
        };
    }

    private static void flattened(String what, Same.Script script, int t, int... xy) {
        LetterFoundry f = Edge.made(script);
        Check.due(what + " by " + t, f.flatten(0, t), xy.length / 2);
        for (int k = 0; k < xy.length / 2; k++) {
            Check.due(what + ": x of " + k, f.flat(k, 1), xy[2 * k]);
            Check.due(what + ": y of " + k, f.flat(k, 2), xy[2 * k + 1]);
        }
    }

    // "FLATTENED by t (1 .. 256)"; "NONE: no such LETTER, t can't be, or there is none"
    private static void numbers() {
        Edge.noLetter("flatten", Bench.RICH, LETTERS, -1, (f, l) -> f.flatten(l, 1));
        Edge.numbers("t", Bench.RICH, 1, 256, -1, (f, t) -> f.flatten(0, t));
        Edge.numbers("t of parts", Bench.RICH, 1, 256, -1, (f, t) -> f.flatten(3, t));
        Edge.numbers("t of an empty letter", Bench.RICH, 1, 256, -1, (f, t) -> f.flatten(4, t));
        Edge.taken("no outlines", Bench.RICH, 0, f -> f.flatten(4, 1));
        Edge.taken("an open one alone", Bench.RICH, 0, f -> f.flatten(5, 1));
        Edge.taken("the last letter", Bench.RICH, 0, f -> f.flatten(LETTERS - 1, 1));
    }

    // "Its PIECES, from POINT 0 on, round": the last one ends at POINT 0, whatever it is
    private static void roundPieces() {
        flattened("a line", outline(0, 0, 0, 100, 0, 0), 1, 0, 0, 100, 0);
        // the middle of 100, 0 and 50, 100 and 0, 0
        flattened("a TWO", outline(0, 0, 0, 100, 0, 0, 50, 100, 1), 199, 0, 0, 100, 0, 50, 50);
        // the middle of 80, 0 and 80, 80 and 0, 80 and 0, 0
        flattened("a THREE", outline(0, 0, 0, 80, 0, 0, 80, 80, 2, 0, 80, 2), 79, 0, 0, 80, 0, 40, 60);
        flattened("one TWO alone", outline(0, 0, 0, 50, 100, 1), 199, 0, 0, 25, 50);
        flattened("one THREE alone", outline(0, 0, 0, 0, 40, 2, 40, 40, 2), 39, 0, 0, 15, 30);
        // behind another outline its own POINT 0 is what comes behind the last one
        Same.Script second = f -> {
            Bench.FEW.play(f);
            Bench.outline(f, 0, 900, 900, 0, 901, 900, 0);
            Bench.outline(f, 0, 0, 0, 0, 100, 0, 0, 50, 100, 1);
        };
        flattened("in a second outline", second, 199, 900, 900, 901, 900, 0, 0, 100, 0, 50, 50);
    }

    // "|px - 2 qx + rx| and the same of y are not above t; of THREE also of Q, R, S"
    private static void notAboveT() {
        // P - 2 Q + R is 2, -2, 256, -256 along one axis
        int[][] bends = {{-1, 0}, {1, 0}, {0, -1}, {0, 1}};
        for (int[] b : bends) {
            for (int half : new int[] {1, 128}) {
                Same.Script two = outline(0, 0, 0, 500 + half * b[0], half * b[1], 1, 1000, 0, 0);
                int t = 2 * half;
                Edge.taken("not above", two, 2, f -> f.flatten(0, t));
                Edge.taken("above", two, 3, f -> f.flatten(0, t - 1));
                int x = half * b[0];
                int y = half * b[1];
                // the first three of a THREE bend by t, the last three by 0, and the other way round
                Same.Script first = outline(2 * x, 2 * y, 0, 300, 0, 2, 600, 0, 2, 900, 0, 0);
                Edge.taken("P, Q, R not above", first, 2, f -> f.flatten(0, t));
                Edge.taken("P, Q, R above", first, 3, f -> f.flatten(0, t - 1));
                Same.Script last = outline(0, 0, 0, 300, 0, 2, 600, 0, 2, 900 + 2 * x, 2 * y, 0);
                Edge.taken("Q, R, S not above", last, 2, f -> f.flatten(0, t));
                Edge.taken("Q, R, S above", last, 3, f -> f.flatten(0, t - 1));
            }
        }
        Same.Script line = outline(0, 0, 0, 32000, 0, 0, 32000, 32000, 0);
        Edge.taken("a line is never halved", line, 3, f -> f.flatten(0, 1));
    }

    // "all exact": a half that bends by a fraction above t is halved again
    private static void fractionsAboveT() {
        // by 40, then by 10; by 42, then by 10.5
        Edge.taken("10", outline(0, 0, 0, 500, 20, 1, 1000, 0, 0), 3, f -> f.flatten(0, 10));
        Edge.taken("10.5", outline(0, 0, 0, 500, 21, 1, 1000, 0, 0), 5, f -> f.flatten(0, 10));
        // by 16, then by 4, then by 1; by 18, then 4.5, then 1.125, and then by less than 1
        Edge.taken("1", outline(0, 0, 0, 500, 8, 1, 1000, 0, 0), 5, f -> f.flatten(0, 1));
        Edge.taken("1.125", outline(0, 0, 0, 500, 9, 1, 1000, 0, 0), 9, f -> f.flatten(0, 1));
        // of THREE: bends of 0 and 8: its halves have 0 and 1, 1 and 2
        Same.Script three = outline(0, 0, 0, 300, 0, 2, 600, 0, 2, 900, 8, 0);
        Edge.taken("by 2 the halves are flat", three, 3, f -> f.flatten(0, 2));
        Edge.taken("by 1 the second one isn't", three, 4, f -> f.flatten(0, 1));
    }

    // "if 10 halvings are done, or it is FLAT, there is its end alone"
    private static void tenHalvings() {
        // The curve bends by nothing at its start and by 4 to the 9th at its end: nine halvings are enough.
        int[] nine = deep(-13512);
        // By 12 more, the last of the pieces by nine halvings is halved once more.
        int[] ten = deep(-13513);
        Check.due("nine halvings", lastGap(nine, 1) > lastGap(nine, 2) - 9, true);
        Check.due("a tenth", 2 * lastGap(ten, 1) < lastGap(ten, 3) + 9, true);
        Check.due("in two halves", Math.abs(lastGap(ten, 1) - lastGap(ten, 2)) <= 3, true);
        Check.due("points by nine", nine.length, NINE);
        // one more at each level: its last flat piece by 4 to the 9th just isn't flat any more
        Check.due("points by ten", ten.length, NINE + 4);
        // What would need eleven halvings has more than 500 points by ten.
        Same.Script far = f -> {
            Bench.FEW.play(f);
            Bench.outline(f, 0, 0, 0, 0, -32000, -32000, 2, 32000, 32000, 2, 0, 0, 0);
            f.part(1, 0, 0, 0);
            f.matrix(1, 0, -32768, -32768, 0, 0);
        };
        Edge.refused("too many", far, -1, f -> f.flatten(1, 1));
        Edge.taken("fewer by 256", far, 1, f -> Edge.of(f.flatten(1, 256) > 0));
    }

    // "all exact": behind ten halvings of a THREE 30 bits behind the point still count
    private static void exactBehindTenHalvings() {
        LetterFoundry f = Edge.made(Bench.FEW);
        // x comes to be -2 x + y - 32000: 31227, -46000, -122117, 63995
        Bench.outline(f, 0, -16000, 31227, 0, 0, -14000, 2, 30000, -30117, 2, -32000, 31995, 0);
        f.part(1, 0, -32000, 0);
        f.matrix(1, 0, -32768, 16384, 0, 0);
        int count = f.flatten(1, 1);
        Check.due("its start", f.flat(0, 1), 31227);
        Check.due("its end", f.flat(count - 1, 1), 63995);
        // the last end but one, at 1023 / 1024, is 63450.5 and a part of 2 to the 30th above it
        Check.due("a little above a half", f.flat(count - 2, 1), 63451);
    }

    private static int lastGap(int[] xs, int back) {
        return xs[xs.length - back] - xs[xs.length - back - 1];
    }

    /** The x of all points of a curve 0, 4 q, 8 q, 100000: its bend at the end is 100000 - 12 q. */
    private static int[] deep(int q) {
        LetterFoundry f = Edge.made(Bench.FEW);
        Bench.outline(f, 0, 0, 0, 0, -q, -q, 2, -2 * q, -2 * q, 2, -25000, -25000, 0);
        f.part(1, 0, 0, 0);
        f.matrix(1, 0, -32768, -32768, 0, 0);
        int[] xs = new int[Math.max(f.flatten(1, 1), 4)];
        for (int k = 0; k < xs.length; k++) {
            xs[k] = f.flat(k, 1);
        }
        return xs;
    }

    // "Each end is ROUNDED (x, y)."
    private static void roundedEnds() {
        // the middle of the curve is Q / 2: 0.5, 1.5, 2.5 along x, and -0.5, -1.5, -2.5 along y
        int[][] dues = {{1, 0}, {2, 1}, {3, 2}, {4, 2}, {5, 2}, {6, 3}, {7, 4}};
        for (int[] d : dues) {
            Same.Script x = outline(0, 100, 0, d[0], 160, 1, 0, 100, 0);
            flattened("x", x, 119, 0, 100, d[1], 130);
            Same.Script y = outline(100, 0, 0, 160, -d[0], 1, 100, 0, 0);
            flattened("y", y, 119, 100, 0, 130, -d[1]);
        }
    }

    // "Of points that are the same as the one ahead (round, too ..), one alone stays; a polygon of one is none."
    private static void sameAsTheOneAhead() {
        flattened("all the same", outline(5, 5, 0, 5, 5, 0), 1);
        flattened("two", outline(5, 5, 0, 5, 6, 0), 1, 5, 5, 5, 6);
        flattened("the first ones", outline(5, 5, 0, 5, 5, 0, 9, 5, 0), 1, 5, 5, 9, 5);
        flattened("the last ones", outline(5, 5, 0, 9, 5, 0, 5, 5, 0, 5, 5, 0), 1, 5, 5, 9, 5);
        flattened("x alone", outline(5, 5, 0, 5, 7, 0, 5, 8, 0), 1, 5, 5, 5, 7, 5, 8);
        flattened("y alone", outline(5, 5, 0, 7, 5, 0, 8, 5, 0), 1, 5, 5, 7, 5, 8, 5);
        flattened("not ahead", outline(0, 0, 0, 9, 0, 0, 0, 0, 0, 0, 9, 0), 1, 0, 0, 9, 0, 0, 0, 0, 9);
        flattened("a curve to itself that is flat", outline(3, 3, 0, 4, 4, 1), 2);
        Same.Script polygons = f -> {
            Bench.FEW.play(f);
            Bench.outline(f, 0, 7, 7, 0, 8, 8, 0);
            Bench.outline(f, 0, 5, 5, 0, 5, 5, 0);
            Bench.outline(f, 0, 8, 8, 0, 7, 7, 0);
        };
        flattened("the one ahead in another polygon", polygons, 1, 7, 7, 8, 8, 8, 8, 7, 7);
        Edge.taken("the first polygon", polygons, 0, f -> f.flatten(0, 1) - 4 + f.flat(1, 0));
        Edge.taken("none has no number", polygons, 1, f -> f.flatten(0, 1) - 4 + f.flat(2, 0));
    }

    /** Letter 1 has five parts of 99 points, each 100 ahead of leaving out. */
    private static final Same.Script FULL = f -> {
        f.letter(7, 70);
        f.letter(8, 80);
        f.letter(9, 90);
        f.outline(0);
        for (int k = 0; k < 99; k++) {
            f.point(0, k, k % 2, 0);
        }
        f.close(0);
        for (int k = 0; k < 5; k++) {
            f.part(1, 0, 0, 0);
        }
    };

    // "more than 500 points in all ahead of leaving out"
    private static void fiveHundredPoints() {
        Edge.taken("500", FULL, 495, f -> f.flatten(1, 1));
        Edge.taken("the last", FULL, 98, f -> f.flatten(1, 1) - 495 + f.flat(494, 1));
        Edge.taken("no more", FULL, -1000000, f -> f.flatten(1, 1) - 495 + f.flat(495, 1));
        Edge.taken("an empty part more", FULL, 495, f -> f.part(1, 2, 0, 0) - 5 + f.flatten(1, 1));
        Same.Script more = f -> {
            FULL.play(f);
            Bench.outline(f, 2, 0, 0, 0, 0, 0, 0);
            f.part(1, 2, 0, 0);
        };
        Edge.refused("503, of which three are left out", more, -1, f -> f.flatten(1, 1));
        curvesUpTo500();
    }

    // A curve of 256 points, one of 128, 64, 32, 16: with POINT 0 there are 497; lines make the rest.
    private static void curvesUpTo500() {
        for (int lines = 2; lines <= 6; lines++) {
            LetterFoundry f = Edge.made(Bench.FEW);
            f.outline(0);
            f.point(0, 0, 0, 0);
            for (int power = 8; power >= 4; power--) {
                // a bend of 4 to the power (64000 for the eighth) is flat behind as many halvings
                f.point(0, 0, Math.min(32000, 1 << (2 * power - 1)), 1);
                f.point(0, 0, 0, 0);
            }
            for (int k = 1; k < lines; k++) {
                f.point(0, 10 * k, 0, 0);
            }
            Check.due("close", f.close(0), 0);
            int answer = f.flatten(0, 1);
            boolean fits = 1 + 256 + 128 + 64 + 32 + 16 + lines <= 500;
            Check.due("lines " + lines, answer >= 0, fits);
            Check.due("points of " + lines, answer, fits ? 496 + lines : -1);
        }
    }

    // "if a polygon's point is beyond -100000 .. 100000"
    private static void farPoints() {
        for (int point = 0; point < 3; point++) {
            for (int axis = 0; axis < 2; axis++) {
                farPoint(point, axis, 1);
                farPoint(point, axis, -1);
            }
        }
    }

    private static void farPoint(int k, int axis, int sign) {
        Same.Script edge = f -> {
            Bench.FEW.play(f);
            Bench.outline(f, 0, 10, 10, 0, 50, 50, 0, 90, 90, 0);
            f.part(1, 0, axis == 0 ? sign * 32000 : 0, axis == 1 ? sign * 32000 : 0);
            if (axis == 0) {
                f.matrix(1, 0, 32767, 16384, 0, 0);
            } else {
                f.matrix(1, 0, 0, 0, 16384, 32767);
            }
            moveFar(f, k, axis, sign, 4002);
            f.flatten(1, 1);
        };
        Same.Script beyond = f -> {
            edge.play(f);
            moveFar(f, k, axis, sign, 4003);
        };
        Edge.taken("at the edge", edge, sign * 100000, f -> f.flat(k, 1 + axis));
        Edge.taken("is taken", edge, 3, f -> f.flatten(1, 1));
        Edge.refused("beyond", beyond, -1, f -> f.flatten(1, 1));
        Edge.refused("no image of it", beyond, -1, f -> f.image(1, 1, 4, 0));
    }

    // 32000 by 32767 / 16384 is 63998: with 32000 and 4002 more it is 100000.
    private static void moveFar(LetterFoundry f, int k, int axis, int sign, int more) {
        int along = sign * 32000;
        int across = sign * more;
        f.move(0, k, axis == 0 ? along : across, axis == 0 ? across : along);
    }

    // A control point may be beyond; a point that halving makes may not.
    private static void farCurves() {
        Same.Script curve = f -> {
            Bench.FEW.play(f);
            Bench.outline(f, 0, 32000, 3952, 0, 32000, 4080, 1, 31999, 3954, 0);
            f.part(1, 0, 32000, 0);
            f.matrix(1, 0, 32767, 16384, 0, 16384);
        };
        Edge.taken("Q is 100078", curve, 2, f -> f.flatten(1, 256));
        Edge.taken("P is 99950", curve, 99950, f -> f.flatten(1, 256) - 2 + f.flat(0, 1));
        Edge.refused("the middle is 100014", curve, -1, f -> f.flatten(1, 255));
        Same.Script shrunk = f -> {
            Bench.FEW.play(f);
            Bench.outline(f, 0, 32000, 32000, 0, 32000, 32000, 0);
            f.part(1, 0, 0, 0);
            f.matrix(1, 0, 32767, 32767, 0, 0);
        };
        Edge.refused("far, though a polygon of one is none", shrunk, -1, f -> f.flatten(1, 1));
    }

    // "Point k of the latest flatten() that was not refused .. -1000000 when there is none such."
    private static void latest() {
        Same.Script flat = Bench.richAnd(f -> f.flatten(0, 200));
        Edge.taken("points", Bench.RICH, 7, f -> f.flatten(0, 200));
        Edge.numbers("k", flat, 0, 6, -1000000, (f, k) -> f.flat(k, 0));
        Edge.numbers("what", flat, 0, 2, -1000000, (f, what) -> f.flat(6, what));
        Edge.refused("ahead of any", Bench.FEW, -1000000, f -> f.flat(0, 0));
        Edge.taken("refused ones don't count", flat, 300, f -> f.flatten(4, 0) + 1 + f.flat(6, 1));
        Edge.taken("one of none does", flat, -1000000, f -> f.flatten(4, 1) + f.flat(0, 0));
        Edge.taken("moved points don't", flat, 300, f -> Edge.of(f.move(0, 6, 0, 0)) - 1 + f.flat(6, 1));
    }

    // "1 if ay is not above Y and Y is below by, and X, Y lies left of it"; "-1 if by is not above Y .."
    private static void windings() {
        // up at the left, down at the right, then the other way round
        for (int turn = 1; turn >= -1; turn -= 2) {
            LetterFoundry f = Edge.made(outline(0, 0, 0, 0, 10, 0, 20, 10, 0, 20, 0, 0));
            if (turn > 0) {
                f.reverse(0, 0);
            }
            f.flatten(0, 1);
            int[][] within = {{0, 0}, {0, 159}, {319, 0}, {319, 159}, {160, 80}};
            int[][] outside = {{0, -1}, {0, 160}, {-1, 0}, {-1, 159}, {320, 0}, {320, 159}, {319, 160}, {319, -1}};
            for (int[] p : within) {
                Check.due("within " + p[0] + " " + p[1], f.winding(p[0], p[1]), turn);
            }
            for (int[] p : outside) {
                Check.due("outside " + p[0] + " " + p[1], f.winding(p[0], p[1]), 0);
            }
        }
        // not from 0 on, neither along x nor along y
        for (int turn = 1; turn >= -1; turn -= 2) {
            LetterFoundry f = Edge.made(outline(5, 5, 0, 15, 5, 0, 15, 25, 0, 5, 25, 0));
            if (turn < 0) {
                f.reverse(0, 0);
            }
            f.flatten(0, 1);
            Check.due("its lower left", f.winding(80, 80), turn);
            Check.due("below it", f.winding(80, 79), 0);
            Check.due("its upper right", f.winding(239, 399), turn);
            Check.due("above it", f.winding(239, 400), 0);
        }
        windingsOfSlopes();
    }

    private static void windingsOfSlopes() {
        // by the least that there is: 2 Y - X is 1, 0, -1
        for (int turn = 1; turn >= -1; turn -= 2) {
            LetterFoundry f = Edge.made(outline(0, 0, 0, 2, 1, 0, 0, 1, 0));
            if (turn < 0) {
                f.reverse(0, 0);
            }
            f.flatten(0, 1);
            Check.due("just left of it", f.winding(1, 1), turn);
            Check.due("on it", f.winding(2, 1), 0);
            Check.due("just right of it", f.winding(3, 1), 0);
        }
        // a slope: at height 1 / 16 it is at 2 / 16
        LetterFoundry f = Edge.made(outline(0, 0, 0, 20, 10, 0, 0, 10, 0));
        f.flatten(0, 1);
        Check.due("left of the slope", f.winding(1, 1), 1);
        Check.due("on the slope", f.winding(2, 1), 0);
        Check.due("right of the slope", f.winding(3, 1), 0);
        Check.due("at its foot", f.winding(0, 0), 0);
        f.reverse(0, 0);
        f.flatten(0, 1);
        Check.due("left of the slope down", f.winding(1, 1), -1);
        Check.due("on the slope down", f.winding(2, 1), 0);
    }

    // "(each -2000000 .. 2000000; 0 beyond)"
    private static void windingNumbers() {
        Same.Script flat = f -> {
            Bench.FEW.play(f);
            Bench.outline(f, 0, -32000, -32000, 0, 32000, -32000, 0, 32000, 32000, 0, -32000, 32000, 0);
            f.part(1, 0, 32000, 32000);
            f.matrix(1, 0, 32767, 0, 0, 32767);
            f.flatten(1, 1);
        };
        // the square is from -31998 to 95998
        Edge.taken("the last place", flat, 1, f -> f.winding(16 * 95998 - 1, 16 * 95998 - 1));
        Edge.taken("beyond x", flat, 0, f -> f.winding(16 * 95998, 16 * 95998 - 1));
        Edge.taken("beyond y", flat, 0, f -> f.winding(16 * 95998 - 1, 16 * 95998));
        Edge.taken("the first place", flat, 1, f -> f.winding(-16 * 31998, -16 * 31998));
        int[] places = {-2000001, -2000000, 2000000, 2000001, Integer.MIN_VALUE, Integer.MAX_VALUE};
        for (int place : places) {
            Edge.refused("x " + place, flat, 0, f -> f.winding(place, 0));
            Edge.refused("y " + place, flat, 0, f -> f.winding(0, place));
            Edge.refused("both " + place, flat, 0, f -> f.winding(place, place));
        }
        Edge.refused("ahead of any", Bench.FEW, 0, f -> f.winding(0, 0));
    }

    private static void crossingsOf(String what, int due, int... polygons) {
        LetterFoundry f = Edge.made(Bench.FEW);
        for (int k = 0; k < polygons.length; k += 4) {
            Bench.outline(f, 0, polygons[k], polygons[k + 1], 0, polygons[k + 2], polygons[k + 3], 0);
        }
        f.flatten(0, 1);
        Check.due(what, f.crossings(), due);
        for (int o = 0; o < polygons.length / 4; o++) {
            f.reverse(0, o);
        }
        f.flatten(0, 1);
        Check.due(what + ", turned", f.crossings(), due);
    }

    // "the ends of each lie truly on two sides of the other"; "(each with each other one, once)"
    private static void crossings() {
        // a polygon of two has two edges, there and back: a cross of two such has 4 pairs
        crossingsOf("a cross", 4, 0, 0, 10, 10, 0, 10, 10, 0);
        crossingsOf("the least cross", 4, 0, 0, 1, 1, 0, 1, 1, 0);
        crossingsOf("an end on the other", 0, 0, 0, 10, 0, 5, 0, 5, 10);
        crossingsOf("an end behind the other", 4, 0, 0, 10, 0, 5, -1, 5, 10);
        crossingsOf("an end ahead of the other", 0, 0, 0, 10, 0, 5, 1, 5, 10);
        crossingsOf("through its end", 0, 0, 0, 10, 0, 10, -5, 10, 5);
        crossingsOf("just ahead of its end", 4, 0, 0, 10, 0, 9, -5, 9, 5);
        crossingsOf("beyond its end", 0, 0, 0, 10, 0, 11, -5, 11, 5);
        crossingsOf("end to end", 0, 0, 0, 10, 0, 10, 0, 20, 5);
        crossingsOf("on one line", 0, 0, 0, 10, 0, 5, 0, 15, 0);
        crossingsOf("the same", 0, 0, 0, 10, 0, 0, 0, 10, 0);
        crossingsOf("side by side", 0, 0, 0, 10, 0, 0, 1, 10, 1);
        crossingsOf("far ones", 4, -32000, -32000, 32000, 32000, -32000, 32000, 32000, -32000);
        crossingsOf("three", 12, 0, 0, 10, 0, 5, -5, 5, 5, 0, -3, 10, 4);
        crossingsOf("alone", 0, 0, 0, 10, 10);
        Edge.refused("ahead of any", Bench.FEW, 0, f -> f.crossings());
    }

    // "AREA of these polygons (0 ahead of any)."
    private static void areas() {
        Edge.refused("ahead of any", Bench.FEW, 0, f -> f.area());
        Edge.taken("of none", Bench.RICH, 0, f -> f.flatten(4, 1) + f.area());
        Edge.taken("of two points", outline(3, 4, 0, 9, 70, 0), 0, f -> f.flatten(0, 1) - 2 + f.area());
        Edge.taken("a triangle", outline(0, 0, 0, 1, 0, 0, 0, 1, 0), 1, f -> f.flatten(0, 1) - 3 + f.area());
        Edge.taken("turned", outline(0, 0, 0, 0, 1, 0, 1, 0, 0), -1, f -> f.flatten(0, 1) - 3 + f.area());
        // 8 times a square of 64000: beyond what an int holds
        Same.Script eight = f -> {
            Bench.FEW.play(f);
            for (int o = 0; o < 8; o++) {
                Bench.outline(f, 0, -32000, -32000, 0, 32000, -32000, 0, 32000, 32000, 0, -32000, 32000, 0);
            }
        };
        Edge.taken("large", eight, 16L * 64000 * 64000, f -> f.flatten(0, 1) - 32 + f.area());
        for (int turn = 1; turn >= -1; turn -= 2) {
            LetterFoundry f = Edge.made(eight);
            f.part(1, 0, 0, 0);
            f.matrix(1, 0, -32768, 0, 0, -32768 * turn - (turn < 0 ? 1 : 0));
            Check.due("flatten", f.flatten(1, 1), 32);
            // 64000 and 64000, or 64000 and 63998 with the turn changed
            long side = turn > 0 ? 128000 : 127996;
            Check.due("larger", f.area(), turn * 16L * 128000 * side);
        }
    }

    // ".. of these polygons": of an earlier flatten() with more points nothing is left
    private static void ofTheLatestAlone() {
        LetterFoundry f = Edge.made(Bench.FEW);
        Bench.outline(f, 0, 0, 0, 0, 10, 0, 0, 0, 10, 0);
        Bench.outline(f, 0, 1, 1, 0, 30, 2, 0, -30, 3, 0, 40, 4, 0, -40, 5, 0);
        f.flatten(0, 1);
        f.flatten(0, 1);
        f.drop(0);
        f.flatten(0, 1);
        Check.due("area", f.area(), 100);
        Check.due("crossings", f.crossings(), 0);
        for (int y = 1; y < 160; y += 8) {
            Check.due("winding", f.winding(-1, y), 0);
            Check.due("winding", f.winding(0, y), 1);
        }
        Check.due("no more points", f.flat(3, 1), -1000000);
    }
}
