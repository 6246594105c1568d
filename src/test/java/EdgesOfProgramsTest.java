/** Term V, promises 22 to 25: the last that is taken, the first that is refused; each FAULT. */
public final class EdgesOfProgramsTest {
    private static final int LETTERS = Bench.RICH_LETTERS;
    private static final int BILLION = 1000000000;
    private static final int NO_FITTED = -2000000000;

    public static void main(String[] args) {
        acts();
        hundredActs();
        wiping();
        running();
        fitted();
        places();
        stackLacks();
        stackIsFull();
        noSuchPoint();
        noSuchAct();
        calls();
        overZero();
        thousandActs();
        store();
        numbers();
        madePlaces();
        comparing();
        pointsAndStack();
        leastFault();
        Check.end();
    }

    /** Letter 0 of the rich bench (7 points) with these acts in place of its own. */
    private static Same.Script with(int... acts) {
        return Bench.richAnd(f -> {
            f.wipe(0);
            Bench.acts(f, 0, acts);
        });
    }

    private static int[] joined(int[] first, int... second) {
        int[] all = new int[first.length + second.length];
        System.arraycopy(first, 0, all, 0, first.length);
        System.arraycopy(second, 0, all, first.length, second.length);
        return all;
    }

    private static void good(String what, int... acts) {
        Edge.taken(what, with(acts), 0, f -> f.run(0, 16));
    }

    /** The run answers the FAULT, and what was fitted by the latest good one stays. */
    private static void fault(String what, int due, int... acts) {
        Edge.refused(what, with(acts), due, f -> f.run(0, 16));
    }

    /** What the acts leave on the STACK comes to be x of POINT 0. */
    private static void leaves(String what, long due, int... acts) {
        Same.Script script = with(joined(acts, 23, 0));
        Edge.taken(what, script, due, f -> f.run(0, 16) + f.fitted(0, 0));
    }

    // "An act more of a PROGRAM (0 .. 30)"; "each with an arg (-100000 .. 100000)"
    private static void acts() {
        Edge.noLetter("act", Bench.RICH, LETTERS, -1, (f, l) -> f.act(l, 0, 0));
        Edge.numbers("op", Bench.RICH, 0, 30, -1, (f, op) -> f.act(0, op, 0));
        for (int o = 0; o <= 30; o++) {
            int op = o;
            Edge.taken("arg", Bench.RICH, 8, f -> f.act(0, op, 100000));
            Edge.taken("arg", Bench.RICH, 8, f -> f.act(0, op, -100000));
            Edge.taken("arg", Bench.RICH, -1, f -> f.act(0, op, 100001));
            Edge.taken("arg", Bench.RICH, -1, f -> f.act(0, op, -100001));
        }
        Edge.numbers("arg", Bench.RICH, -100000, 100000, -1, (f, arg) -> f.act(0, 0, arg));
        Edge.refused("two parts", Bench.RICH, -1, f -> f.act(2, 0, 0));
        Edge.refused("one part", Bench.RICH, -1, f -> f.act(3, 0, 0));
        Edge.taken("the first of a letter", Bench.RICH, 1, f -> f.act(LETTERS - 1, 0, 0));
        Edge.taken("an open outline doesn't matter", Bench.RICH, 1, f -> f.act(5, 0, 0));
    }

    // "up to 100 acts"; "or there are 100"
    private static void hundredActs() {
        Same.Script nearly = Bench.richAnd(f -> {
            f.wipe(0);
            for (int k = 0; k < 99; k++) {
                f.act(0, 28, k);
            }
        });
        Same.Script full = f -> {
            nearly.play(f);
            f.act(0, 26, 0);
        };
        Edge.taken("the 100th", nearly, 100, f -> f.act(0, 26, 0));
        Edge.refused("a 101st", full, -1, f -> f.act(0, 30, 0));
        Edge.taken("how many", full, 100, f -> f.info(0, 7));
        Edge.taken("the last is done", full, 1, f -> f.run(0, 16) + f.fitted(0, 2));
        Edge.taken("another letter's", full, 2, f -> f.act(4, 30, 0));
        Edge.taken("room again", full, 1, f -> f.wipe(0) - 100 + f.act(0, 30, 0));
    }

    // "All acts go: how many there were; NONE when there is no such LETTER."
    private static void wiping() {
        Edge.noLetter("wipe", Bench.RICH, LETTERS, -1, LetterFoundry::wipe);
        Edge.taken("seven", Bench.RICH, 7, f -> f.wipe(0));
        Edge.refused("none there", Bench.RICH, 0, f -> f.wipe(LETTERS - 1));
        Edge.refused("parts", Bench.RICH, 0, f -> f.wipe(2));
        Edge.taken("acts from ahead of the parts", Bench.RICH, 1, f -> f.part(4, 0, 0, 0) + f.wipe(4));
        Edge.taken("twice", Bench.RICH, 0, f -> f.wipe(0) - 7 + f.wipe(0));
        Edge.taken("no acts are done then", Bench.RICH, 0, f -> f.wipe(0) - 7 + f.run(0, 16) + f.fitted(1, 2));
    }

    // "RUN at s dots (4 .. 32) .. NONE: no such LETTER, it has PARTS, or another s"
    private static void running() {
        Edge.noLetter("run", Bench.RICH, LETTERS, -1, (f, l) -> f.run(l, 16));
        Edge.numbers("s", Bench.RICH, 4, 32, -1, (f, s) -> f.run(0, s));
        Edge.refused("parts", Bench.RICH, -1, f -> f.run(2, 16));
        Edge.refused("a part of parts", Bench.RICH, -1, f -> f.run(3, 16));
        Edge.taken("no points and no acts", Bench.RICH, 0, f -> f.run(LETTERS - 1, 16));
        Same.Script withParts = Bench.richAnd(f -> f.part(4, 0, 0, 0));
        Edge.refused("acts and parts", withParts, -1, f -> f.run(4, 16));
        Edge.refused("changes nothing of the letter", Bench.RICH, 0, f -> f.run(0, 12));
    }

    // "POINT k of the latest run() that answered 0 .. -2000000000 when there is none such"
    private static void fitted() {
        Edge.numbers("k", Bench.RICH, 0, 6, NO_FITTED, (f, k) -> f.fitted(k, 0));
        Edge.numbers("what", Bench.RICH, 0, 3, NO_FITTED, (f, what) -> f.fitted(6, what));
        Edge.refused("ahead of any", Bench.FEW, NO_FITTED, f -> f.fitted(0, 0));
        Edge.taken("of the latest", Bench.RICH, NO_FITTED, f -> f.run(1, 16) + f.fitted(4, 0));
        Edge.taken("of one without points", Bench.RICH, NO_FITTED, f -> f.run(4, 16) + f.fitted(0, 0));
        Edge.taken("a point that is gone since", Bench.RICH, 1, f -> f.drop(0) - 1 + Edge.of(f.fitted(6, 0) != NO_FITTED));
        Edge.taken("touched along x", Bench.RICH, 1, f -> f.fitted(1, 2));
        Edge.taken("not along y", Bench.RICH, 0, f -> f.fitted(1, 3));
        Edge.taken("touched along y", Bench.RICH, 1, f -> f.fitted(4, 3));
        Edge.taken("not along x", Bench.RICH, 0, f -> f.fitted(4, 2));
    }

    // "each POINT is at ROUNDED(64 s x / 1024), y likewise"
    private static void places() {
        int[][] dues = {
            // s, x, place: a half goes to the even one
            {8, 1, 0}, {8, 3, 2}, {8, 5, 2}, {8, -1, 0}, {8, -3, -2}, {8, -5, -2}, {4, 2, 0}, {4, 6, 2},
            {4, 1, 0}, {4, 3, 1}, {4, -2, 0}, {4, -6, -2}, {5, 1, 0}, {5, 2, 1}, {16, 7, 7}, {32, 7, 14},
            {32, 32000, 64000}, {32, -32000, -64000}, {4, 32000, 8000}, {4, -32000, -8000}, {31, 8, 16}, {31, 24, 46}
        };
        for (int[] due : dues) {
            LetterFoundry f = Edge.made(Bench.FEW);
            Bench.outline(f, 0, due[1], 0, 0, 0, due[1], 0);
            Check.due("run", f.run(0, due[0]), 0);
            Check.due("x " + due[1] + " at " + due[0], f.fitted(0, 0), due[2]);
            Check.due("y " + due[1] + " at " + due[0], f.fitted(1, 1), due[2]);
        }
    }

    private static final int[] WANT_ONE = {1, 2, 8, 9, 10, 11, 17, 20, 23, 25};
    private static final int[] WANT_TWO = {3, 4, 5, 6, 7, 12, 13, 14, 15};
    private static final int[] GROW = {0, 1, 21, 22, 24};

    // "1 the STACK lacks .."
    private static void stackLacks() {
        for (int op : WANT_ONE) {
            fault("empty: " + op, 1, op, 0);
            good("one: " + op, 0, 5, op, 0);
        }
        for (int op : WANT_TWO) {
            fault("empty: " + op, 1, op, 0);
            fault("one: " + op, 1, 0, 5, op, 0);
            good("two: " + op, 0, 5, 0, 6, op, 0);
        }
        for (int op : new int[] {0, 16, 18, 19, 21, 22, 24, 26, 27, 28, 29, 30}) {
            good("wants none: " + op, op, op == 16 || op == 18 ? 1 : 0);
        }
        fault("the dropped one is gone", 1, 0, 5, 2, 0, 2, 0);
        fault("two become one", 1, 0, 5, 0, 6, 4, 0, 4, 0);
        fault("17 drops it", 1, 0, 5, 17, 3, 2, 0);
        fault("20 drops it", 1, 0, 5, 20, 0, 2, 0);
        fault("23 drops it", 1, 0, 5, 23, 0, 2, 0);
    }

    // ".. or is full": "STACK (32 at most)"
    private static void stackIsFull() {
        int[] nearly = new int[2 * 31];
        int[] full = new int[2 * 32];
        for (int op : GROW) {
            good("the 32nd by " + op, joined(nearly, op, 0));
            fault("a 33rd by " + op, 1, joined(full, op, 0));
        }
        for (int op : new int[] {2, 3, 4, 5, 6, 8, 9, 10, 11, 12, 13, 14, 15, 16, 17, 18, 19, 20, 23, 25, 26, 27, 28, 29, 30}) {
            good("full doesn't matter for " + op, joined(full, op, op >= 16 && op <= 18 ? 33 : 0));
        }
        good("one goes, one comes", joined(full, 2, 0, 0, 9));
        fault("one goes, two come", 1, joined(full, 2, 0, 0, 9, 0, 9));
        Same.Script twice = with(full);
        Edge.taken("empty with each run", twice, 0, f -> f.run(0, 16) + f.run(0, 16));
    }

    // "2 no such POINT"
    private static void noSuchPoint() {
        for (int op = 22; op <= 27; op++) {
            good("the first: " + op, 0, 5, op, 0);
            good("the last: " + op, 0, 5, op, 6);
            for (int bad : new int[] {-1, 7, 99, 100, 100000, -100000}) {
                fault("point " + bad + ": " + op, 2, 0, 5, op, bad);
            }
        }
        Same.Script none = Bench.richAnd(f -> f.act(6, 26, 0));
        Edge.refused("of none", none, 2, f -> f.run(6, 16));
        Same.Script open = Bench.richAnd(f -> {
            f.wipe(1);
            f.act(1, 26, 4);
        });
        Edge.refused("of an open outline", open, 2, f -> f.run(1, 16));
    }

    // "3 no such act to go to (0 .. as many as there are; asked by 17 if it doesn't go, too)"
    private static void noSuchAct() {
        for (int op = 16; op <= 18; op++) {
            good("as many as there are: " + op, 0, 0, op, 3, 30, 0);
            for (int bad : new int[] {-1, 4, 100, 100000, -100000}) {
                fault("act " + bad + ": " + op, 3, 0, 0, op, bad, 30, 0);
            }
        }
        good("17 doesn't go", 0, 1, 17, 3, 30, 0);
        good("17 doesn't go to 0", 0, 1, 17, 0, 30, 0);
        for (int bad : new int[] {-1, 4}) {
            fault("17 doesn't go, too", 3, 0, 1, 17, bad, 30, 0);
        }
        // act 0 is where one may go: there behind act 2 the STORE says that it has been done
        leaves("go to act 0", 9, 21, 0, 17, 4, 0, 9, 16, 7, 0, 1, 20, 0, 16, 0);
        fault("an act that isn't come to asks nothing, but the other one does", 3, 16, 2, 16, 99, 16, 99);
        good("an act that isn't come to asks nothing", 16, 2, 16, 99, 30, 0);
    }

    // "4 a ninth CALL": "CALLS (8 at most)"; "19 come back (with no call it ends)"
    private static void calls() {
        int[] eight = {18, 1, 18, 2, 18, 3, 18, 4, 18, 5, 18, 6, 18, 7, 18, 8};
        good("eight", eight);
        fault("a ninth", 4, joined(eight, 18, 9));
        fault("it calls itself", 4, 18, 0);
        // nine calls, one behind the other: each comes back ahead of the next
        int[] row = {16, 2, 19, 0, 18, 1, 18, 1, 18, 1, 18, 1, 18, 1, 18, 1, 18, 1, 18, 1, 18, 1};
        good("nine, each come back", row);
        leaves("back behind the call", 12, 16, 3, 0, 6, 19, 0, 18, 1, 18, 1, 4, 0);
        good("come back with no call", 19, 0, 2, 0);
        fault("come back to what lacks", 1, 16, 2, 19, 0, 18, 1, 2, 0);
        Same.Script five = with(18, 1, 18, 2, 18, 3, 18, 4, 18, 5, 30, 0);
        Edge.taken("none open with each run", five, 0, f -> f.run(0, 16) + f.run(0, 16));
    }

    // "5 over 0"
    private static void overZero() {
        fault("5 over 0", 5, 0, 5, 0, 0, 7, 0);
        fault("0 over 0", 5, 0, 0, 0, 0, 7, 0);
        leaves("0 over 5", 0, 0, 0, 0, 5, 7, 0);
        leaves("over 1", 320, 0, 5, 0, 1, 7, 0);
        leaves("over -1", -320, 0, 5, 0, -1, 7, 0);
        // 64 / 128 is a half: to the even one
        leaves("a half", 0, 0, 1, 0, 128, 7, 0);
        leaves("one and a half", 2, 0, 3, 0, 128, 7, 0);
        leaves("less a half", 0, 0, 1, 0, -128, 7, 0);
        leaves("less one and a half", -2, 0, -3, 0, 128, 7, 0);
        leaves("two and a half", 2, 0, -5, 0, -128, 7, 0);
    }

    /** Acts of which 5 rounds are done: n pushed, then 1 taken off it until it is 0. */
    private static int[] loop(int rounds, int... more) {
        return joined(new int[] {0, rounds, 0, 1, 5, 0, 1, 0, 17, 6, 16, 1}, more);
    }

    // "1000 acts at most are done."; "6 the 1001st act"; "but 6 ahead of all"
    private static void thousandActs() {
        // 1 act, 5 in each round but the last, which has 4: 995 in 199 rounds
        good("999", loop(199, 28, 0, 28, 0, 28, 0, 28, 0));
        good("1000", loop(199, 28, 0, 28, 0, 28, 0, 28, 0, 28, 0));
        fault("the 1001st", 6, loop(199, 28, 0, 28, 0, 28, 0, 28, 0, 28, 0, 28, 0));
        good("an end as the 1000th", loop(199, 28, 0, 28, 0, 28, 0, 28, 0, 30, 0, 28, 0));
        fault("an end as the 1001st", 6, loop(199, 28, 0, 28, 0, 28, 0, 28, 0, 28, 0, 30, 0));
        good("going behind the last as the 1000th", loop(199, 28, 0, 28, 0, 28, 0, 28, 0, 16, 11));
        fault("1 as the 1000th", 1, loop(199, 28, 0, 28, 0, 28, 0, 2, 0, 2, 0));
        fault("6 ahead of 1", 6, loop(199, 28, 0, 28, 0, 28, 0, 28, 0, 28, 0, 4, 0));
        fault("6 ahead of 2", 6, loop(199, 28, 0, 28, 0, 28, 0, 28, 0, 28, 0, 26, 99));
        fault("6 ahead of 3", 6, loop(199, 28, 0, 28, 0, 28, 0, 28, 0, 28, 0, 16, 99));
        good("1000 in 200 rounds", loop(200));
        fault("1005 in 201 rounds", 6, loop(201));
        fault("for ever", 6, 16, 0);
    }

    // "STORE 0 .. 15 (all 0)"; "7 no such STORE"
    private static void store() {
        for (int op : new int[] {20, 21}) {
            good("the first: " + op, 0, 5, op, 0);
            good("the last: " + op, 0, 5, op, 15);
            for (int bad : new int[] {-1, 16, 100000, -100000}) {
                fault("store " + bad + ": " + op, 7, 0, 5, op, bad);
            }
        }
        for (int at : new int[] {0, 15}) {
            leaves("kept", 5, 0, 5, 20, at, 21, at);
            leaves("0 at first", 0, 21, at);
        }
        leaves("each for itself", 6, 0, 5, 20, 0, 0, 6, 20, 15, 0, 7, 20, 1, 21, 15);
        Same.Script kept = with(21, 3, 23, 0, 0, 5, 20, 3);
        Edge.taken("all 0 with each run", kept, 0, f -> f.run(0, 16) + f.run(0, 16) + f.fitted(0, 0));
    }

    /** Acts that leave 1000000000: 100000 by 1000, by 10. */
    private static final int[] MAKE = {0, 100000, 0, 64000, 6, 0, 0, 640, 6, 0};

    // "8 a number .. beyond -1000000000 .. 1000000000 made"
    private static void numbers() {
        int[] less = joined(MAKE, 8, 0);
        leaves("a billion", BILLION, MAKE);
        leaves("sign turned", -BILLION, less);
        leaves("without sign", BILLION, joined(less, 9, 0));
        leaves("and 0", BILLION, joined(MAKE, 0, 0, 4, 0));
        leaves("and -1", BILLION - 1, joined(MAKE, 0, -1, 4, 0));
        fault("and 1", 8, joined(MAKE, 0, 1, 4, 0));
        fault("itself added", 8, joined(MAKE, 1, 0, 4, 0));
        fault("-1 to the least", 8, joined(less, 0, -1, 4, 0));
        leaves("1 to the least", 1 - BILLION, joined(less, 0, 1, 4, 0));
        fault("less 1", 8, joined(less, 0, 1, 5, 0));
        leaves("less -1", 1 - BILLION, joined(less, 0, -1, 5, 0));
        fault("the greatest less -1", 8, joined(MAKE, 0, -1, 5, 0));
        leaves("itself less itself", 0, joined(MAKE, 1, 0, 5, 0));
        leaves("times 64", BILLION, joined(MAKE, 0, 64, 6, 0));
        leaves("times -64", -BILLION, joined(MAKE, 0, -64, 6, 0));
        fault("times 65", 8, joined(MAKE, 0, 65, 6, 0));
        fault("times -65", 8, joined(MAKE, 0, -65, 6, 0));
        fault("times itself", 8, joined(MAKE, 1, 0, 6, 0));
        leaves("over 64", BILLION, joined(MAKE, 0, 64, 7, 0));
        leaves("over -64", -BILLION, joined(MAKE, 0, -64, 7, 0));
        fault("over 63", 8, joined(MAKE, 0, 63, 7, 0));
        fault("over -63", 8, joined(MAKE, 0, -63, 7, 0));
        fault("over 1", 8, joined(MAKE, 0, 1, 7, 0));
        leaves("to the grid", BILLION, joined(MAKE, 0, -1, 4, 0, 10, 0));
        leaves("to the grid below 0", -BILLION, joined(less, 0, 1, 4, 0, 10, 0));
        leaves("down to the grid", -BILLION, joined(less, 0, 1, 4, 0, 11, 0));
        // 666666667 by 96 / 64 is 1000000000.5: the even one can be; 1 more makes 1000000002
        int[] third = {0, 66666, 0, 64000, 6, 0, 0, 640, 6, 0, 0, 6667, 4, 0};
        leaves("what is made is ROUNDED first", BILLION, joined(third, 0, 96, 6, 0));
        leaves("below 0, too", -BILLION, joined(third, 0, -96, 6, 0));
        fault("and then it counts", 8, joined(third, 0, 1, 4, 0, 0, 96, 6, 0));
        fault("below 0, too", 8, joined(third, 0, 1, 4, 0, 0, -96, 6, 0));
        leaves("100000 may be pushed", 100000, 0, 100000);
        leaves("-100000, too", -100000, 0, -100000);
    }

    // ".. or a POINT's place, beyond -1000000000 .. 1000000000 made"
    private static void madePlaces() {
        int[] less = joined(MAKE, 8, 0);
        for (int axis = 0; axis < 2; axis++) {
            int put = 23 + 2 * axis;
            int fit = 28 + axis;
            int other = 29 - axis;
            int grid = 26 + axis;
            good("put there", joined(MAKE, put, 0));
            good("put there below 0", joined(less, put, 0));
            good("to the grid there", joined(MAKE, put, 0, grid, 0));
            // Of points 0, 0 and 400, 0 and 400, 300 and 0, 300: POINT 0 moves the others by its own way.
            fault("fitted beyond", 8, joined(MAKE, put, 0, fit, 0));
            fault("beyond by one", 8, joined(MAKE, 0, axis == 0 ? -399 : -299, 4, 0, put, 0, fit, 0));
            good("just within", joined(MAKE, 0, axis == 0 ? -400 : -300, 4, 0, put, 0, fit, 0));
            good("along the other axis nothing is fitted", joined(MAKE, put, 0, other, 0));
            // POINT 2 is the farthest: the others come to be below it
            fault("fitted beyond below 0", 8, joined(less, put, 2, fit, 0));
            fault("beyond by one below 0", 8, joined(less, 0, axis == 0 ? 399 : 299, 4, 0, put, 2, fit, 0));
            good("just within below 0", joined(less, 0, axis == 0 ? 400 : 300, 4, 0, put, 2, fit, 0));
        }
    }

    // "12 the lesser of two. 13 the greater. 14 64 if the one below is less than the top .. 15 64 if they are the same"
    private static void comparing() {
        int[][] dues = {
            // below, top, then what 12 .. 15 leave
            {4, 5, 4, 5, 64, 0}, {5, 5, 5, 5, 0, 64}, {6, 5, 5, 6, 0, 0}, {-1, 0, -1, 0, 64, 0},
            {0, 0, 0, 0, 0, 64}, {1, 0, 0, 1, 0, 0}, {-100000, 100000, -100000, 100000, 64, 0}
        };
        for (int[] d : dues) {
            for (int k = 0; k < 4; k++) {
                leaves("act " + (12 + k) + " of " + d[0] + " " + d[1], d[2 + k], 0, d[0], 0, d[1], 12 + k, 0);
            }
        }
    }

    // "1 double the top. 2 drop. 3 change the two."; "22 push x of POINT arg. .. 24, 25 so for y."
    private static void pointsAndStack() {
        leaves("double: the copy", 7, 0, 7, 1, 0);
        leaves("double: both are there", 14, 0, 7, 1, 0, 4, 0);
        leaves("change: the top", 7, 0, 7, 0, 9, 3, 0);
        leaves("change: the one below", 9, 0, 7, 0, 9, 3, 0, 2, 0);
        leaves("less", -2, 0, 7, 0, 9, 5, 0);
        leaves("x of the last", 300, 22, 6);
        leaves("y of the last", 100, 24, 6);
        leaves("x of another", 200, 22, 5);
        leaves("y of another", 250, 24, 5);
        Same.Script put = with(0, 11, 23, 6, 0, 12, 25, 5);
        Edge.taken("x is put", put, 11, f -> f.run(0, 16) + f.fitted(6, 0));
        Edge.taken("its y stays", put, 100, f -> f.run(0, 16) + f.fitted(6, 1));
        Edge.taken("y is put", put, 12, f -> f.run(0, 16) + f.fitted(5, 1));
        Edge.taken("its x stays", put, 200, f -> f.run(0, 16) + f.fitted(5, 0));
        Edge.taken("touched along x", put, 1, f -> f.run(0, 16) + f.fitted(6, 2));
        Edge.taken("not along y", put, 0, f -> f.run(0, 16) + f.fitted(6, 3));
        // an act that takes no arg may have any
        leaves("any arg", 14, 0, 7, 1, 99999, 4, -99999);
        good("any arg of 15", 0, 5, 0, 6, 15, -100000);
        good("any arg of 19", 19, 100000);
        good("any arg of 30", 30, -100000);
        good("any arg of 28 and 29", 28, -5, 29, 100000);
    }

    // "Of one act the least that it is"
    private static void leastFault() {
        int[] full = new int[2 * 32];
        int[] eight = {18, 1, 18, 2, 18, 3, 18, 4, 18, 5, 18, 6, 18, 7, 18, 8};
        fault("1 ahead of 2: 23", 1, 23, 7);
        fault("1 ahead of 2: 25", 1, 25, -1);
        fault("1 ahead of 2: 22", 1, joined(full, 22, 7));
        fault("1 ahead of 2: 24", 1, joined(full, 24, -1));
        fault("1 ahead of 3: 17", 1, 17, 99);
        fault("1 ahead of 5: 7", 1, 0, 0, 7, 0);
        fault("1 ahead of 7: 20", 1, 20, 16);
        fault("1 ahead of 7: 21", 1, joined(full, 21, 16));
        fault("3 ahead of 4: 18", 3, joined(eight, 18, 99));
        fault("of two acts the first one's", 8, joined(MAKE, 1, 0, 4, 0, 2, 0, 2, 0));
    }
}
