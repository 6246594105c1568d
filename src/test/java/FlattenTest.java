/** Promises 14 to 18: flatten, flat, area, winding, crossings. */
public final class FlattenTest {
    public static void main(String[] args) {
        refusals();
        curvesOfTwo();
        curvesOfThree();
        leavingOut();
        tooMany();
        tooFar();
        windings();
        crossing();
        Check.end();
    }

    private static LetterFoundry withLetter() {
        LetterFoundry f = new LetterFoundry();
        f.letter(1, 0);
        return f;
    }

    private static void refusals() {
        LetterFoundry f = withLetter();
        Check.due("no letter", f.flatten(1, 1), -1);
        Check.due("letter -1", f.flatten(-1, 1), -1);
        Check.due("t 0", f.flatten(0, 0), -1);
        Check.due("t 257", f.flatten(0, 257), -1);
        Check.due("nothing", f.flatten(0, 1), 0);
        Check.polygon(f, 0, 0, 0, 7, 0, 7, 9);
        f.outline(0);
        f.point(0, 50, 50, 0);
        Check.due("closed ones alone", f.flatten(0, 256), 3);
        Check.due("refused", f.flatten(0, 257), -1);
        Check.due("x stays", f.flat(1, 1), 7);
        Check.due("y", f.flat(2, 2), 9);
        Check.due("point 3", f.flat(3, 0), -1000000);
        Check.due("point -1", f.flat(-1, 0), -1000000);
        Check.due("what 3", f.flat(0, 3), -1000000);
        Check.due("what -1", f.flat(0, -1), -1000000);
        f.move(0, 1, 500, 500);
        f.drop(0);
        f.drop(0);
        Check.due("what was flattened stays", f.flat(1, 1), 7);
        Check.due("area stays", f.area(), 63);
    }

    private static void expect(LetterFoundry f, int t, int... xy) {
        Check.due("points by " + t, f.flatten(0, t), xy.length / 2);
        for (int k = 0; k < xy.length / 2; k++) {
            Check.due("x of " + k, f.flat(k, 1), xy[2 * k]);
            Check.due("y of " + k, f.flat(k, 2), xy[2 * k + 1]);
        }
    }

    private static void curvesOfTwo() {
        LetterFoundry f = withLetter();
        Check.outline(f, 0, 0, 0, 0, 10, 21, 1);
        // A curve from point 0 round to itself; its middle is 5, 10.5
        expect(f, 42);
        expect(f, 41, 0, 0, 5, 10);
        f.move(0, 1, 10, 23);
        // quarters: 3.75, 8.625; middle 5, 11.5 to the even 12
        expect(f, 11, 0, 0, 4, 9, 5, 12, 4, 9);
        // x alone above t
        f.move(0, 1, 50, 0);
        expect(f, 99, 0, 0, 25, 0);
        f.move(0, 1, -50, 0);
        expect(f, 99, 0, 0, -25, 0);
        expect(f, 100);
    }

    private static void curvesOfThree() {
        LetterFoundry f = withLetter();
        Check.outline(f, 0, 0, 0, 0, 0, 80, 2, 80, 80, 2, 80, 0, 0);
        // bends of x: 80 and -80, of y: -80 and -80
        expect(f, 80, 0, 0, 80, 0);
        expect(f, 79, 0, 0, 40, 60, 80, 0);
        Check.due("area of one halving", f.area(), -4800);
        // A last control point alone that bends
        f.move(0, 1, 20, 0);
        f.move(0, 2, 40, 0);
        f.move(0, 3, 60, 0);
        expect(f, 1, 0, 0, 60, 0);
        f.move(0, 3, 63, 0);
        expect(f, 3, 0, 0, 63, 0);
        Check.due("a second bend of 3", f.flatten(0, 2) > 2, true);
        LetterFoundry g = withLetter();
        Check.outline(g, 0, 0, 0, 0, 0, 40, 2, 40, 40, 2);
        // round to itself; middle 15, 30; bends 40, 40; -40, -40
        Check.due("to itself", g.flatten(0, 39), 2);
        Check.due("x", g.flat(1, 1), 15);
        Check.due("y", g.flat(1, 2), 30);
    }

    private static void leavingOut() {
        LetterFoundry f = withLetter();
        Check.polygon(f, 0, 5, 5, 5, 5, 5, 5);
        Check.polygon(f, 0, 0, 0, 0, 0, 10, 0, 10, 0, 10, 10, 10, 10, 0, 0, 0, 0);
        Check.polygon(f, 0, 1, 1, 2, 2);
        expect(f, 1, 0, 0, 10, 0, 10, 10, 1, 1, 2, 2);
        Check.due("polygon", f.flat(0, 0), 0);
        Check.due("polygon", f.flat(2, 0), 0);
        Check.due("polygon", f.flat(3, 0), 1);
        Check.due("area", f.area(), 100);
    }

    private static void line(LetterFoundry f, int l, int points) {
        f.outline(l);
        for (int k = 0; k < points; k++) {
            f.point(l, k, k % 2, 0);
        }
        f.close(l);
    }

    private static void tooMany() {
        LetterFoundry f = withLetter();
        f.letter(2, 0);
        line(f, 0, 99);
        for (int k = 0; k < 5; k++) {
            f.part(1, 0, 0, 0);
        }
        // 100 points ahead of leaving out in each part
        Check.due("500", f.flatten(1, 1), 495);
        f.letter(3, 0);
        Check.polygon(f, 2, 4, 4, 4, 4);
        Check.due("a part more", f.part(1, 2, 0, 0), 5);
        Check.due("503, though all are left out", f.flatten(1, 1), -1);
        Check.due("stays", f.flat(494, 0), 4);
    }

    private static void tooFar() {
        LetterFoundry f = withLetter();
        f.letter(2, 0);
        Check.polygon(f, 0, 0, 0, 32000, 0, 32000, 10);
        f.part(1, 0, 32000, 0);
        f.matrix(1, 0, 32767, 32767, 0, 16384);
        Check.due("near", f.flatten(1, 1), 3);
        Check.due("x", f.flat(1, 1), 95998);
        f.move(0, 2, 32000, 2001);
        Check.due("at the edge", f.flatten(1, 1), 3);
        Check.due("x", f.flat(2, 1), 100000);
        f.move(0, 2, 32000, 2002);
        Check.due("beyond", f.flatten(1, 1), -1);
        Check.due("stays", f.flat(2, 1), 100000);
        f.matrix(1, 0, -32768, -32767, 0, 16384);
        f.move(0, 2, 32000, 32000);
        Check.due("near again", f.flatten(1, 1), 3);
        Check.due("x", f.flat(2, 1), -95998);
        LetterFoundry g = withLetter();
        g.letter(2, 0);
        // a control point beyond, with all points of the polygon within
        Check.outline(g, 0, 0, 0, 0, 32000, 32000, 1);
        g.part(1, 0, 0, 0);
        g.matrix(1, 0, 32767, 32767, 0, 0);
        Check.due("too many", g.flatten(1, 1), -1);
        Check.due("control points may be far", g.flatten(1, 256) > 2, true);
    }

    private static void windings() {
        LetterFoundry f = withLetter();
        Check.polygon(f, 0, 0, 0, 10, 0, 10, 10, 0, 10);
        Check.polygon(f, 0, 2, 2, 8, 2, 8, 8, 2, 8);
        f.flatten(0, 1);
        Check.due("area", f.area(), 272);
        Check.due("inside both", f.winding(80, 80), 2);
        Check.due("inside one", f.winding(16, 80), 1);
        Check.due("on the left edge", f.winding(0, 0), 1);
        Check.due("on the right edge", f.winding(160, 80), 0);
        Check.due("by a sixteenth", f.winding(159, 159), 1);
        Check.due("on the upper edge", f.winding(80, 160), 0);
        Check.due("outside", f.winding(-1, 80), 0);
        f.reverse(0, 1);
        f.flatten(0, 1);
        Check.due("against one another", f.winding(80, 80), 0);
        Check.due("area", f.area(), 128);
        f.reverse(0, 0);
        f.flatten(0, 1);
        Check.due("both turned", f.winding(80, 80), -2);
        Check.due("on the left edge, turned", f.winding(0, 0), -1);
        Check.due("on the right edge, turned", f.winding(160, 80), 0);
        Check.due("x beyond", f.winding(2000001, 0), 0);
        LetterFoundry g = withLetter();
        g.letter(2, 0);
        Check.polygon(g, 0, -32000, -32000, 32000, -32000, 32000, 32000, -32000, 32000);
        g.part(1, 0, 0, 0);
        g.matrix(1, 0, 32767, 0, 0, 32767);
        g.flatten(1, 1);
        Check.due("far", g.winding(1000000, -1000000), 1);
        Check.due("area", g.area(), 2L * 127996 * 127996);
        LetterFoundry h = withLetter();
        h.letter(2, 0);
        Check.polygon(h, 0, 0, -100, 32000, -100, 32000, 100, 0, 100);
        h.part(1, 0, 32000, 0);
        h.part(1, 0, 0, 32000);
        h.matrix(1, 0, 32767, 0, 0, 16384);
        h.matrix(1, 1, 0, 16384, 32767, 0);
        h.flatten(1, 1);
        Check.due("near the edge", h.winding(1535900, 0), 1);
        Check.due("beyond x", h.winding(-2000001, 0), 0);
        Check.due("beyond y", h.winding(0, 2000001), 0);
        Check.due("beyond y", h.winding(0, -2000001), 0);
        Check.due("beyond both", h.winding(Integer.MIN_VALUE, Integer.MAX_VALUE), 0);
        windingOfTheFarthest();
    }

    // A polygon of 100000 steps is at 1600000 sixteenths: 2000000 lies beyond every polygon.
    private static void windingOfTheFarthest() {
        LetterFoundry f = withLetter();
        Check.polygon(f, 0, 0, 0, 10, 0, 10, 10);
        f.flatten(0, 1);
        Check.due("the last place", f.winding(2000000, 2000000), 0);
        Check.due("the first place", f.winding(-2000000, -2000000), 0);
        Check.due("left of an edge, but beyond", f.winding(-2000000, 16), 0);
    }

    private static void crossing() {
        LetterFoundry f = withLetter();
        Check.polygon(f, 0, 0, 0, 10, 10, 10, 0, 0, 10);
        f.flatten(0, 1);
        Check.due("a bow tie", f.crossings(), 1);
        Check.polygon(f, 0, -5, 2, 20, 2);
        f.flatten(0, 1);
        // there and back: each of the two edges crosses both slopes and both sides
        Check.due("a line through", f.crossings(), 1 + 2 * 4);
        LetterFoundry g = withLetter();
        Check.polygon(g, 0, 0, 0, 10, 0, 10, 10, 0, 10);
        Check.polygon(g, 0, 5, 5, 15, 5, 15, 15, 5, 15);
        g.flatten(0, 1);
        Check.due("two squares", g.crossings(), 2);
        g.drop(0);
        Check.polygon(g, 0, 10, 5, 20, 0, 20, 10);
        g.flatten(0, 1);
        Check.due("one that touches", g.crossings(), 0);
        g.drop(0);
        Check.polygon(g, 0, 10, 0, 10, 10, 0, 10, 0, 0);
        g.flatten(0, 1);
        Check.due("the same edges", g.crossings(), 0);
        g.drop(0);
        Check.polygon(g, 0, 5, -5, 5, 5, 6, 5, 6, -5);
        g.flatten(0, 1);
        Check.due("a comb", g.crossings(), 2);
        g.drop(0);
        Check.polygon(g, 0, 20, 5, 30, 5, 30, 6);
        g.flatten(0, 1);
        Check.due("on two sides of one alone", g.crossings(), 0);
    }
}
