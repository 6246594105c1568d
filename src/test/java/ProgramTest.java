/** Promises 22 to 25: act, wipe, run, fitted. */
public final class ProgramTest {
    private static final int BILLION = 1000000000;

    public static void main(String[] args) {
        acts();
        runs();
        numbers();
        goings();
        pointActs();
        fittings();
        faults();
        leastFaults();
        Check.end();
    }

    private static LetterFoundry with(int... xy) {
        LetterFoundry f = new LetterFoundry();
        f.letter(1, 0);
        Check.polygon(f, 0, xy);
        return f;
    }

    private static void acts() {
        LetterFoundry f = new LetterFoundry();
        Check.due("no letter", f.act(0, 0, 0), -1);
        Check.due("no letter", f.wipe(0), -1);
        f.letter(1, 0);
        f.letter(2, 0);
        f.part(1, 0, 0, 0);
        Check.due("has parts", f.act(1, 0, 0), -1);
        Check.due("op -1", f.act(0, -1, 0), -1);
        Check.due("op 31", f.act(0, 31, 0), -1);
        Check.due("arg", f.act(0, 0, 100001), -1);
        Check.due("arg", f.act(0, 30, -100001), -1);
        for (int k = 1; k <= 100; k++) {
            Check.due("act", f.act(0, k % 31, k % 2 == 0 ? 100000 : -100000), k);
        }
        Check.due("act 101", f.act(0, 0, 0), -1);
        Check.due("how many", f.info(0, 7), 100);
        Check.due("wipe", f.wipe(0), 100);
        Check.due("wipe", f.wipe(0), 0);
        Check.due("again", f.act(0, 0, 0), 1);
    }

    private static void runs() {
        LetterFoundry f = with(0, 0, 1000, 8, -8, 24);
        Check.due("ahead of any", f.fitted(0, 0), -2000000000);
        Check.due("no letter", f.run(1, 8), -1);
        Check.due("s 3", f.run(0, 3), -1);
        Check.due("s 33", f.run(0, 33), -1);
        Check.due("run", f.run(0, 32), 0);
        Check.due("x", f.fitted(1, 0), 2000);
        Check.due("run", f.run(0, 5), 0);
        // 64 5 / 1024 is 5 / 16: 312.5 to 312, 2.5 to 2, -2.5 to -2, 7.5 to 8
        Check.due("x", f.fitted(1, 0), 312);
        Check.due("y", f.fitted(1, 1), 2);
        Check.due("x", f.fitted(2, 0), -2);
        Check.due("y", f.fitted(2, 1), 8);
        Check.due("touched x", f.fitted(1, 2), 0);
        Check.due("touched y", f.fitted(1, 3), 0);
        Check.due("what 4", f.fitted(1, 4), -2000000000);
        Check.due("what -1", f.fitted(1, -1), -2000000000);
        Check.due("point 3", f.fitted(3, 0), -2000000000);
        Check.due("point -1", f.fitted(-1, 0), -2000000000);
        Check.program(f, 0, 0, 77, 23, 1, 2, 0);
        Check.due("a fault", f.run(0, 5), 1);
        Check.due("stays", f.fitted(1, 0), 312);
        f.move(0, 1, 0, 0);
        f.drop(0);
        Check.due("stays", f.fitted(1, 0), 312);
        f.wipe(0);
        Check.due("of no points", f.run(0, 4), 0);
        Check.due("none now", f.fitted(0, 0), -2000000000);
    }

    /** What the acts leave on top of the stack. */
    private static int top(int... acts) {
        LetterFoundry f = with(0, 0, 1, 1);
        Check.program(f, 0, acts);
        f.act(0, 23, 0);
        int fault = f.run(0, 16);
        Check.due("no fault", fault, 0);
        Check.due("touched", f.fitted(0, 2), 1);
        return f.fitted(0, 0);
    }

    private static void numbers() {
        Check.due("push", top(0, -100000), -100000);
        Check.due("double", top(0, 7, 1, 0, 4, 0), 14);
        Check.due("drop", top(0, 7, 0, 8, 2, 0), 7);
        Check.due("change", top(0, 7, 0, 8, 3, 0), 7);
        Check.due("change", top(0, 7, 0, 8, 3, 0, 2, 0), 8);
        Check.due("less", top(0, 7, 0, 10, 5, 0), -3);
        Check.due("times", top(0, 96, 0, 80, 6, 0), 120);
        Check.due("times to the even", top(0, 1, 0, 32, 6, 0), 0);
        Check.due("times to the even", top(0, 3, 0, 32, 6, 0), 2);
        Check.due("times to the even", top(0, -3, 0, 32, 6, 0), -2);
        Check.due("over", top(0, 96, 0, 80, 7, 0), 77);
        Check.due("over below 0", top(0, 96, 0, -80, 7, 0), -77);
        Check.due("over to the even", top(0, 1, 0, -128, 7, 0), 0);
        Check.due("over to the even", top(0, 3, 0, -128, 7, 0), -2);
        Check.due("sign", top(0, 5, 8, 0), -5);
        Check.due("without", top(0, -5, 9, 0), 5);
        Check.due("without", top(0, 5, 9, 0), 5);
        Check.due("grid", top(0, 96, 10, 0), 128);
        Check.due("grid", top(0, 32, 10, 0), 0);
        Check.due("grid", top(0, -33, 10, 0), -64);
        Check.due("down", top(0, 127, 11, 0), 64);
        Check.due("down", top(0, -1, 11, 0), -64);
        Check.due("down", top(0, -64, 11, 0), -64);
        Check.due("lesser", top(0, 3, 0, -4, 12, 0), -4);
        Check.due("lesser", top(0, -4, 0, 3, 12, 0), -4);
        Check.due("greater", top(0, 3, 0, -4, 13, 0), 3);
        Check.due("greater", top(0, -4, 0, 3, 13, 0), 3);
        Check.due("is less", top(0, 3, 0, 4, 14, 0), 64);
        Check.due("is less", top(0, 4, 0, 4, 14, 0), 0);
        Check.due("is less", top(0, 5, 0, 4, 14, 0), 0);
        Check.due("same", top(0, 4, 0, 4, 15, 0), 64);
        Check.due("same", top(0, 4, 0, 5, 15, 0), 0);
        Check.due("store", top(0, 4, 20, 15, 0, 9, 2, 0, 21, 15), 4);
        Check.due("store at first", top(21, 0), 0);
    }

    private static void goings() {
        Check.due("go", top(16, 2, 16, 5, 0, 9), 9);
        Check.due("go if 0", top(0, 1, 0, 0, 17, 4, 0, 2), 1);
        Check.due("don't go", top(0, 1, 0, 5, 17, 4, 0, 2), 2);
        Check.due("call", top(16, 3, 0, 6, 19, 0, 18, 1, 18, 1, 4, 0), 12);
        LetterFoundry f = with(0, 0, 1, 1);
        Check.program(f, 0, 0, 5, 19, 0, 23, 0);
        Check.due("come back with no call", f.run(0, 16), 0);
        Check.due("it ended", f.fitted(0, 2), 0);
        Check.program(f, 0, 30, 99, 23, 0);
        Check.due("end", f.run(0, 16), 0);
        Check.program(f, 0, 18, 1, 30, 0);
        Check.due("end within a call", f.run(0, 16), 0);
        Check.program(f, 0, 16, 2, 2, 0);
        Check.due("go behind the last", f.run(0, 16), 0);
        Check.program(f, 0, 18, 2, 2, 0);
        Check.due("call behind the last", f.run(0, 16), 0);
        Check.program(f, 0, new int[2 * 20]);
        Check.due("20 on the stack", f.run(0, 16), 0);
        Check.due("which is new with each run", f.run(0, 16), 0);
        Check.program(f, 0, 18, 1, 18, 2, 18, 3, 18, 4, 18, 5, 30, 0);
        Check.due("5 calls", f.run(0, 16), 0);
        Check.due("which are new with each run", f.run(0, 16), 0);
        Check.program(f, 0, 21, 0, 23, 0, 0, 50, 20, 0);
        f.run(0, 16);
        f.run(0, 16);
        Check.due("store is new", f.fitted(0, 0), 0);
    }

    private static void pointActs() {
        LetterFoundry f = with(33, 95, 96, 97, -33, 31);
        Check.program(f, 0, 22, 1, 24, 0, 4, 0, 25, 2, 26, 0, 27, 1);
        Check.due("run", f.run(0, 16), 0);
        Check.due("y of 2", f.fitted(2, 1), 191);
        Check.due("touched y", f.fitted(2, 3), 1);
        Check.due("touched x", f.fitted(2, 2), 0);
        Check.due("x of 0", f.fitted(0, 0), 64);
        Check.due("touched x", f.fitted(0, 2), 1);
        Check.due("touched y", f.fitted(0, 3), 0);
        Check.due("y of 1", f.fitted(1, 1), 128);
        Check.due("touched y", f.fitted(1, 3), 1);
        Check.due("x of 1", f.fitted(1, 0), 96);
        Check.due("run again", f.run(0, 16), 0);
        Check.due("from the start", f.fitted(2, 1), 191);
        Check.due("the letter stays", f.at(0, 0, 0), 33);
    }

    private static void xs(LetterFoundry f, int... want) {
        Check.due("run", f.run(0, 16), 0);
        for (int k = 0; k < want.length; k++) {
            Check.due("x of " + k, f.fitted(k, 0), want[k]);
        }
    }

    private static void fittings() {
        LetterFoundry f = with(0, 0, 10, 0, 20, 0, 30, 0, 40, 0, -5, 0);
        Check.program(f, 0, 28, 0);
        xs(f, 0, 10, 20, 30, 40, -5);
        Check.program(f, 0, 0, 25, 23, 2, 28, 0);
        xs(f, 5, 15, 25, 35, 45, 0);
        Check.due("not touched by that", f.fitted(1, 2), 0);
        Check.due("touched", f.fitted(2, 2), 1);
        // A is 0 (now 100), B is 4 (now 60): between them turned round, and point 5 below both
        Check.program(f, 0, 0, 100, 23, 0, 0, 60, 23, 4, 28, 0);
        xs(f, 100, 90, 80, 70, 60, 95);
        // 10 of 40 of 10 is 2.5: to the even
        Check.program(f, 0, 0, 0, 23, 0, 0, 10, 23, 4, 28, 0);
        xs(f, 0, 2, 5, 8, 10, -5);
        // A behind: from 4 round to 0
        f.move(0, 5, 50, 0);
        xs(f, 0, 2, 5, 8, 10, 20);
        f.move(0, 5, 10, 0);
        xs(f, 0, 2, 5, 8, 10, 2);
        f.move(0, 5, 40, 0);
        xs(f, 0, 2, 5, 8, 10, 10);
        // Both at first at the same place: A's move counts
        LetterFoundry g = with(10, 0, 5, 0, 10, 0, 15, 0);
        Check.program(g, 0, 0, 110, 23, 0, 0, 310, 23, 2, 28, 0);
        xs(g, 110, 105, 310, 315);
        g.move(0, 1, 10, 0);
        xs(g, 110, 110, 310, 315);
        // Untouched ones that were moved by fitting are fitted anew from where they were at first
        Check.program(g, 0, 0, 110, 23, 0, 28, 0, 0, 310, 23, 2, 28, 0);
        xs(g, 110, 110, 310, 315);
        fittingsOfOutlines();
        fullLetter();
    }

    private static void fullLetter() {
        LetterFoundry f = new LetterFoundry();
        f.letter(1, 0);
        for (int o = 0; o < 8; o++) {
            f.outline(0);
            for (int k = 0; k < (o < 7 ? 12 : 16); k++) {
                f.point(0, 100 * o + k, k * k, 0);
            }
            Check.due("close", f.close(0), 0);
        }
        Check.due("points", f.info(0, 3), 100);
        Check.due("flatten", f.flatten(0, 1), 100);
        Check.due("the last outline", f.at(0, 99, 3), 7);
        Check.program(f, 0, 29, 0, 0, 700, 23, 99, 28, 0);
        Check.due("run", f.run(0, 16), 0);
        Check.due("x of 99", f.fitted(99, 0), 700);
        Check.due("x of 84", f.fitted(84, 0), 685);
        Check.due("x of 83", f.fitted(83, 0), 611);
        Check.due("y of 99", f.fitted(99, 1), 225);
        Check.due("point 100", f.fitted(100, 0), -2000000000);
        Check.due("point 100", f.at(0, 100, 0), -100000);
    }

    private static void fittingsOfOutlines() {
        LetterFoundry f = with(0, 0, 10, 100, 20, 200);
        Check.polygon(f, 0, 7, 70, 8, 80, 9, 90);
        Check.program(f, 0, 0, 50, 23, 1, 28, 0, 0, 85, 25, 4, 29, 0);
        xs(f, 40, 50, 60, 7, 8, 9);
        int[] ys = {0, 100, 200, 75, 85, 95};
        for (int k = 0; k < 6; k++) {
            Check.due("y of " + k, f.fitted(k, 1), ys[k]);
        }
    }

    private static int fault(int... acts) {
        LetterFoundry f = with(0, 0, 10, 10, 30, 30);
        Check.program(f, 0, acts);
        return f.run(0, 16);
    }

    /** Acts that make a billion: 100000 times 640000 / 64. */
    private static int[] billionAnd(int... acts) {
        int[] make = {0, 100000, 0, 80000, 1, 0, 4, 0, 1, 0, 4, 0, 1, 0, 4, 0, 6, 0};
        int[] all = new int[make.length + acts.length];
        System.arraycopy(make, 0, all, 0, make.length);
        System.arraycopy(acts, 0, all, make.length, acts.length);
        return all;
    }

    private static void faults() {
        for (int op : new int[] {1, 2, 8, 9, 10, 11, 17, 20, 23, 25}) {
            Check.due("lacks one: " + op, fault(op, 0), 1);
        }
        for (int op : new int[] {3, 4, 5, 6, 7, 12, 13, 14, 15}) {
            Check.due("lacks two: " + op, fault(0, 1, op, 0), 1);
        }
        int[] full = new int[66];
        for (int op : new int[] {0, 1, 21, 22, 24}) {
            full[64] = op;
            Check.due("full: " + op, fault(full), 1);
        }
        for (int op : new int[] {2, 3, 4, 8, 12, 16, 17, 18, 19, 20, 23, 25, 26, 27, 28, 29, 30}) {
            full[65] = op >= 16 && op <= 18 ? 33 : 0;
            full[64] = op;
            Check.due("not too full: " + op, fault(full), 0);
        }
        int[] nearlyFull = new int[64];
        for (int op : new int[] {0, 1, 21, 22, 24}) {
            nearlyFull[62] = op;
            Check.due("up to 32: " + op, fault(nearlyFull), 0);
        }
        for (int op = 22; op <= 27; op++) {
            Check.due("no point", fault(0, 5, op, 3), 2);
            Check.due("no point", fault(0, 5, op, -1), 2);
            Check.due("a point", fault(0, 5, op, 2), 0);
        }
        for (int op = 16; op <= 18; op++) {
            Check.due("no act", fault(0, 1, op, 3), 3);
            Check.due("no act", fault(0, 1, op, -1), 3);
            Check.due("behind all", fault(0, 0, op, 2), 0);
        }
        Check.due("a ninth call", fault(18, 0), 4);
        Check.due("eight calls", fault(18, 1, 18, 2, 18, 3, 18, 4, 18, 5, 18, 6, 18, 7, 18, 8), 0);
        Check.due("over 0", fault(0, 5, 0, 0, 7, 0), 5);
        Check.due("for ever", fault(16, 0), 6);
        Check.due("no store", fault(0, 5, 20, 16), 7);
        Check.due("no store", fault(21, -1), 7);
        bigNumbers();
        thousandActs();
    }

    private static void bigNumbers() {
        Check.due("a billion", top(billionAnd()), BILLION);
        Check.due("less a billion", top(billionAnd(8, 0)), -BILLION);
        Check.due("to the grid", top(billionAnd(0, 1, 5, 0, 10, 0)), BILLION);
        Check.due("down to the grid", top(billionAnd(8, 0, 0, 1, 4, 0, 11, 0)), -BILLION);
        Check.due("one more", fault(billionAnd(0, 1, 4, 0)), 8);
        Check.due("one less", fault(billionAnd(8, 0, 0, 1, 5, 0)), 8);
        Check.due("times", fault(billionAnd(0, 65, 6, 0)), 8);
        Check.due("times itself", fault(billionAnd(1, 0, 6, 0)), 8);
        Check.due("times less itself", fault(billionAnd(1, 0, 8, 0, 6, 0)), 8);
        Check.due("over", fault(billionAnd(0, 63, 7, 0)), 8);
        Check.due("over below 0", fault(billionAnd(0, -63, 7, 0)), 8);
        Check.due("over 64", top(billionAnd(0, 64, 7, 0)), BILLION);
        Check.due("a place", fault(billionAnd(23, 0)), 0);
        Check.due("a place beyond by fitting", fault(billionAnd(23, 0, 28, 0)), 8);
        Check.due("likewise along y", fault(billionAnd(25, 0, 29, 0)), 8);
        Check.due("not along the other", fault(billionAnd(25, 0, 28, 0)), 0);
        Check.due("below", fault(billionAnd(8, 0, 23, 2, 28, 0)), 8);
        Check.due("just within", fault(billionAnd(8, 0, 0, 30, 4, 0, 23, 2, 28, 0)), 0);
    }

    private static void thousandActs() {
        // 1 act, then rounds of 5 acts: 1 + 5 n + .. up to the thousandth
        int[] count = {0, 0, 20, 0, 21, 0, 0, 1, 4, 0, 1, 0, 20, 0, 0, 0, 5, 0, 17, 10, 16, 2};
        LetterFoundry f = with(0, 0, 1, 1);
        // a loop of 9 acts (2 .. 10) that ends when STORE 0 is the limit; 2 acts ahead of it
        for (int limit = 109; limit <= 112; limit++) {
            count[15] = limit;
            count[19] = 11;
            Check.program(f, 0, count);
            // the last round has 8 acts
            int acts = 2 + 9 * (limit - 1) + 8;
            Check.due("acts " + acts, f.run(0, 16), acts > 1000 ? 6 : 0);
        }
        exactThousand();
    }

    private static void exactThousand() {
        // 3 times 333 acts in a loop (16, 17 and so on), 1 ahead: the 1000th is the last
        LetterFoundry f = with(0, 0, 1, 1);
        for (int more = 0; more < 30; more++) {
            Check.program(f, 0, 0, 0, 20, 0, 21, 0, 0, 1, 4, 0, 1, 0, 20, 0, 0, 107, 5, 0, 17, 11, 16, 2);
            for (int k = 0; k < more; k++) {
                f.act(0, 28, 0);
            }
            int acts = 2 + 9 * 106 + 8 + more;
            Check.due("acts " + acts, f.run(0, 16), acts > 1000 ? 6 : 0);
        }
        for (int more = 30; more < 40; more++) {
            Check.program(f, 0, 0, 0, 20, 0, 21, 0, 0, 1, 4, 0, 1, 0, 20, 0, 0, 107, 5, 0, 17, 11, 16, 2);
            for (int k = 0; k < more; k++) {
                f.act(0, 28, 0);
            }
            f.act(0, 22, 99);
            int acts = 2 + 9 * 106 + 8 + more + 1;
            Check.due("6 ahead of all at " + acts, f.run(0, 16), acts > 1000 ? 6 : 2);
        }
        Check.program(f, 0, 0, 0, 20, 0, 21, 0, 0, 1, 4, 0, 1, 0, 20, 0, 0, 107, 5, 0, 17, 11, 16, 2);
        for (int k = 0; k < 36; k++) {
            f.act(0, 28, 0);
        }
        f.act(0, 30, 0);
        Check.due("an end as the 1001st act", f.run(0, 16), 6);
    }

    private static void leastFaults() {
        Check.due("1 ahead of 2", fault(23, 9), 1);
        Check.due("1 ahead of 3", fault(17, 9), 1);
        Check.due("1 ahead of 7", fault(20, 16), 1);
        Check.due("3 ahead of 4", fault(18, 1, 18, 2, 18, 3, 18, 4, 18, 5, 18, 6, 18, 7, 18, 8, 18, 99), 3);
        int[] full = new int[66];
        full[64] = 22;
        full[65] = 9;
        Check.due("1 ahead of 2", fault(full), 1);
        full[64] = 21;
        full[65] = 99;
        Check.due("1 ahead of 7", fault(full), 1);
        Check.due("3 if it doesn't go, too", fault(0, 1, 17, 99), 3);
    }
}
