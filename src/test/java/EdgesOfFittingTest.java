/** Term V, acts 26 to 29: what is FITTED, at each edge of its words; along x and along y alike. */
public final class EdgesOfFittingTest {
    public static void main(String[] args) {
        noneTouched();
        oneTouched();
        between();
        betweenTurned();
        bothAtOnePlace();
        round();
        eachOutline();
        hundredPoints();
        fromTheFirstPlaces();
        toTheGrid();
        Check.end();
    }

    /**
     * Points at these places along an axis (at 16 dots an EM a STEP is a 64th of a dot), put to
     * others by k, place, k, place, .., then fitted along the axis.
     */
    private static void fits(String what, int[] first, int[] puts, int... due) {
        for (int axis = 0; axis < 2; axis++) {
            LetterFoundry f = Edge.made(Bench.FEW);
            f.outline(0);
            for (int k = 0; k < first.length; k++) {
                f.point(0, axis == 0 ? first[k] : 7, axis == 0 ? 7 : first[k], 0);
            }
            Check.due("close", f.close(0), 0);
            for (int p = 0; p < puts.length; p += 2) {
                f.act(0, 0, puts[p + 1]);
                f.act(0, 23 + 2 * axis, puts[p]);
            }
            f.act(0, 28 + axis, 0);
            Check.due(what + ": run", f.run(0, 16), 0);
            for (int k = 0; k < due.length; k++) {
                Check.due(what + ": " + k + " along " + axis, f.fitted(k, axis), due[k]);
                Check.due(what + ": across", f.fitted(k, 1 - axis), 7);
                Check.due(what + ": touched", f.fitted(k, 2 + axis), isPut(puts, k) ? 1 : 0);
                Check.due(what + ": touched across", f.fitted(k, 3 - axis), 0);
            }
        }
    }

    private static boolean isPut(int[] puts, int k) {
        for (int p = 0; p < puts.length; p += 2) {
            if (puts[p] == k) {
                return true;
            }
        }
        return false;
    }

    // "with none TOUCHED nothing is done"
    private static void noneTouched() {
        fits("none", new int[] {0, 100, 200}, new int[] {}, 0, 100, 200);
    }

    // "With one TOUCHED, A, all others come to o + na - oa."
    private static void oneTouched() {
        int[] first = {0, 100, 200, -300};
        for (int k = 0; k < 4; k++) {
            int by = 1000 - first[k];
            fits("one", first, new int[] {k, 1000}, by, 100 + by, 200 + by, -300 + by);
        }
        fits("one that stays", first, new int[] {1, 100}, 0, 100, 200, -300);
        fits("all touched", new int[] {0, 100}, new int[] {0, 5, 1, 6}, 5, 6);
    }

    // "if o is not above u, ..; if not below v, ..; else to na + ROUNDED((o - oa) (nb - na) / (ob - oa))"
    private static void between() {
        // A from 100 to 150, B from 200 to 400
        int[] puts = {0, 150, 8, 400};
        int[] first = {100, 99, 100, 101, 103, 199, 200, 201, 200};
        // 101 by 2.5 to the even 152; 103 by 7.5 to 158; 199 by 247.5 to 398
        fits("A lower", first, puts, 150, 149, 150, 152, 158, 398, 400, 401, 400);
        // drawn together: 50 for 100
        fits("together", first, new int[] {0, 100, 8, 150}, 100, 99, 100, 100, 102, 150, 150, 151, 150);
        // turned over: B now below A
        fits("over", first, new int[] {0, 400, 8, 150}, 400, 399, 400, 398, 392, 152, 150, 151, 150);
        fits("to one place", first, new int[] {0, 30, 8, 30}, 30, 29, 30, 30, 30, 30, 30, 31, 30);
    }

    private static void betweenTurned() {
        // A from 200 to 400, B from 100 to 150: v is A's
        int[] puts = {0, 400, 8, 150};
        int[] first = {200, 99, 100, 101, 103, 199, 200, 201, 100};
        // 199 by -2.5 to 398; 101 by -247.5 to 152; 103 by -242.5 to 158
        fits("A higher", first, puts, 400, 149, 150, 152, 158, 398, 400, 401, 150);
    }

    // "(A, if both)"
    private static void bothAtOnePlace() {
        int[] first = {100, 99, 100, 101, 100};
        fits("both at 100", first, new int[] {0, 150, 4, 400}, 150, 149, 150, 151, 400);
        fits("both at 100, the other way", first, new int[] {0, 400, 4, 150}, 400, 399, 400, 401, 150);
    }

    // "each untouched one between two TOUCHED ones A and B (round, A ahead)"
    private static void round() {
        // touched are 2 and 4: behind 4, round up to 1, A is 4 and B is 2
        int[] first = {150, 100, 100, 150, 200, 150, 300};
        fits("round", first, new int[] {2, 100, 4, 400}, 250, 100, 100, 250, 400, 250, 500);
        // the first and the last: nothing is between them round
        fits("first and last", new int[] {0, 50, 100}, new int[] {0, 10, 2, 210}, 10, 110, 210);
        // side by side in the middle: all others are round
        fits("side by side", new int[] {50, 0, 100, 50}, new int[] {1, 10, 2, 210}, 110, 10, 210, 110);
        // both at one place, round: A is the later one
        fits("A ahead, round", new int[] {9, 5, 9, 5, 9}, new int[] {1, 105, 3, 205}, 209, 105, 109, 205, 209);
    }

    // "FITTED along x, in each OUTLINE"
    private static void eachOutline() {
        LetterFoundry f = Edge.made(Bench.FEW);
        for (int o = 0; o < 3; o++) {
            Bench.outline(f, 0, 100 * o, 0, 0, 100 * o + 10, 0, 0, 100 * o + 20, 0, 0);
        }
        Bench.acts(f, 0, 0, 15, 23, 2, 0, 300, 23, 6, 0, 340, 23, 8, 28, 0);
        Check.due("run", f.run(0, 16), 0);
        int[] due = {-5, 5, 15, 100, 110, 120, 300, 320, 340};
        for (int k = 0; k < due.length; k++) {
            Check.due("x of " + k, f.fitted(k, 0), due[k]);
        }
        roundInEachOutline();
    }

    // Round in an outline behind another, and ahead of another whose first point is touched, too.
    private static void roundInEachOutline() {
        LetterFoundry f = Edge.made(Bench.FEW);
        for (int o = 0; o < 3; o++) {
            Bench.outline(f, 0, 50, 0, 0, 0, 0, 0, 50, 0, 0, 100, 0, 0, 200, 0, 0);
        }
        // of the first and the second outline points 1 and 3, of the third its first one
        Bench.acts(f, 0, 0, 0, 23, 1, 0, 1000, 23, 3, 0, 100, 23, 6, 0, 600, 23, 8, 0, 9050, 23, 10, 28, 0);
        Check.due("run", f.run(0, 16), 0);
        int[] due = {500, 0, 500, 1000, 1100, 350, 100, 350, 600, 700, 9050, 9000, 9050, 9100, 9200};
        for (int k = 0; k < due.length; k++) {
            Check.due("x of " + k, f.fitted(k, 0), due[k]);
        }
    }

    // A full LETTER: the touched ones are its first, its last, the one ahead of the last.
    private static void hundredPoints() {
        for (int touched : new int[] {0, 1, 50, 98, 99}) {
            LetterFoundry f = Edge.made(Bench.FEW);
            f.outline(0);
            for (int k = 0; k < 100; k++) {
                f.point(0, k, 2 * k, 0);
            }
            Check.due("close", f.close(0), 0);
            Bench.acts(f, 0, 28, 0, 0, 1000 + touched, 23, touched, 28, 0, 0, 99, 25, 99, 0, 0, 25, 0, 29, 0);
            Check.due("run", f.run(0, 16), 0);
            for (int k = 0; k < 100; k++) {
                Check.due("x of " + k, f.fitted(k, 0), 1000 + k);
            }
            // along y all are drawn together to the half
            for (int k = 0; k < 100; k++) {
                Check.due("y of " + k, f.fitted(k, 1), k);
            }
            Check.due("no point 100", f.fitted(100, 0), -2000000000);
        }
    }

    // "Let o be where an untouched POINT was at first"; "(not TOUCHED by that)"
    private static void fromTheFirstPlaces() {
        LetterFoundry f = Edge.made(Bench.FEW);
        Bench.outline(f, 0, 0, 0, 0, 50, 0, 0, 100, 0, 0);
        Bench.acts(f, 0, 0, 1000, 23, 0, 28, 0, 28, 0, 0, 3000, 23, 2, 28, 0);
        Check.due("run", f.run(0, 16), 0);
        Check.due("of both, not of where it had come", f.fitted(1, 0), 2000);
        Check.due("not touched", f.fitted(1, 2), 0);
        f.act(0, 22, 1);
        f.act(0, 25, 1);
        Check.due("run", f.run(0, 16), 0);
        Check.due("where it is now can be asked", f.fitted(1, 1), 2000);
        // touched again: where it is now counts, and where it was at first
        f.act(0, 26, 0);
        f.act(0, 28, 0);
        Check.due("run", f.run(0, 16), 0);
        Check.due("1000 to 1024", f.fitted(0, 0), 1024);
        Check.due("the middle", f.fitted(1, 0), 2012);
    }

    // "26 POINT arg is TOUCHED along x, its x to the grid. 27 so for y."; "10 to the grid: 64 ROUNDED(a / 64)"
    private static void toTheGrid() {
        int[][] dues = {
            {0, 0}, {31, 0}, {32, 0}, {33, 64}, {64, 64}, {95, 64}, {96, 128}, {97, 128}, {160, 128},
            {-31, 0}, {-32, 0}, {-33, -64}, {-64, -64}, {-95, -64}, {-96, -128}, {-160, -128}
        };
        for (int[] due : dues) {
            LetterFoundry f = Edge.made(Bench.FEW);
            Bench.outline(f, 0, due[0], 1000, 0, 1000, due[0], 0);
            Bench.acts(f, 0, 26, 0, 27, 1, 0, due[0], 10, 0, 23, 1);
            Check.due("run", f.run(0, 16), 0);
            Check.due("x " + due[0], f.fitted(0, 0), due[1]);
            Check.due("its y stays", f.fitted(0, 1), 1000);
            Check.due("y " + due[0], f.fitted(1, 1), due[1]);
            Check.due("a number " + due[0], f.fitted(1, 0), due[1]);
            Check.due("touched along x", f.fitted(0, 2), 1);
            Check.due("not along y", f.fitted(0, 3), 0);
            Check.due("touched along y", f.fitted(1, 3), 1);
        }
        int[][] downs = {{0, 0}, {1, 0}, {63, 0}, {64, 64}, {65, 64}, {-1, -64}, {-63, -64}, {-64, -64}, {-65, -128}};
        for (int[] due : downs) {
            LetterFoundry f = Edge.made(Bench.FEW);
            Bench.outline(f, 0, 0, 0, 0, 1, 1, 0);
            Bench.acts(f, 0, 0, due[0], 11, 0, 23, 0);
            Check.due("run", f.run(0, 16), 0);
            Check.due("down to the grid " + due[0], f.fitted(0, 0), due[1]);
        }
    }
}
