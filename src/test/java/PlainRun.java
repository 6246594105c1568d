import java.util.ArrayList;
import java.util.List;

/** A second reading of term V: one program on the points of some outlines. */
final class PlainRun {
    private static final long MOST = 1000000000;

    final long[][] first;
    final long[][] now;
    final boolean[][] touched;
    private final int[] outlineOf;
    private final List<Long> stack = new ArrayList<>();
    private final List<Integer> calls = new ArrayList<>();
    private final long[] store = new long[16];

    PlainRun(List<List<long[]>> outlines, int s) {
        List<long[]> points = new ArrayList<>();
        List<Integer> owners = new ArrayList<>();
        for (int o = 0; o < outlines.size(); o++) {
            for (long[] p : outlines.get(o)) {
                points.add(p);
                owners.add(o);
            }
        }
        first = new long[2][points.size()];
        now = new long[2][points.size()];
        touched = new boolean[2][points.size()];
        outlineOf = new int[points.size()];
        for (int k = 0; k < points.size(); k++) {
            outlineOf[k] = owners.get(k);
            for (int axis = 0; axis < 2; axis++) {
                first[axis][k] = Plain.rounded(64L * s * points.get(k)[axis], 1024);
                now[axis][k] = first[axis][k];
            }
        }
    }

    int run(List<int[]> acts) {
        int at = 0;
        int done = 0;
        while (at < acts.size()) {
            if (done == 1000) {
                return 6;
            }
            done++;
            int op = acts.get(at)[0];
            int arg = acts.get(at)[1];
            int fault = fault(op, arg, acts.size());
            if (fault != 0) {
                return fault;
            }
            at++;
            if (op == 30 || (op == 19 && calls.isEmpty())) {
                return 0;
            } else if (op == 19) {
                at = calls.remove(calls.size() - 1);
            } else if (op == 18) {
                calls.add(at);
                at = arg;
            } else if (op == 17) {
                at = pop() == 0 ? arg : at;
            } else if (op == 16) {
                at = arg;
            } else if (!perform(op, arg)) {
                return 8;
            }
        }
        return 0;
    }

    /** How many numbers of the STACK the act asks for. */
    static int needs(int op) {
        boolean wantsTwo = op == 3 || (op >= 4 && op <= 7) || (op >= 12 && op <= 15);
        boolean wantsOne = op == 1 || op == 2 || (op >= 8 && op <= 11) || op == 17 || op == 20
            || op == 23 || op == 25;
        return wantsTwo ? 2 : wantsOne ? 1 : 0;
    }

    /** Whether there is one more on the STACK behind the act. */
    static boolean grows(int op) {
        return op == 0 || op == 1 || op == 21 || op == 22 || op == 24;
    }

    /** Whether there is one less. */
    static boolean shrinks(int op) {
        return op == 2 || op == 17 || op == 20 || op == 23 || op == 25 || (needs(op) == 2 && op != 3);
    }

    private int fault(int op, int arg, int acts) {
        if (stack.size() < needs(op) || (grows(op) && stack.size() == 32)) {
            return 1;
        }
        if (op >= 22 && op <= 27 && (arg < 0 || arg >= outlineOf.length)) {
            return 2;
        }
        if (op >= 16 && op <= 18 && (arg < 0 || arg > acts)) {
            return 3;
        }
        if (op == 18 && calls.size() == 8) {
            return 4;
        }
        if (op == 7 && stack.get(stack.size() - 1) == 0) {
            return 5;
        }
        return (op == 20 || op == 21) && (arg < 0 || arg > 15) ? 7 : 0;
    }

    private long pop() {
        return stack.remove(stack.size() - 1);
    }

    private boolean push(long value) {
        stack.add(value);
        return Math.abs(value) <= MOST;
    }

    private boolean perform(int op, int arg) {
        switch (op) {
            case 0: return push(arg);
            case 1: return push(stack.get(stack.size() - 1));
            case 2: pop(); return true;
            case 3: stack.add(stack.remove(stack.size() - 2)); return true;
            case 8: return push(-pop());
            case 9: return push(Math.abs(pop()));
            case 10: return push(64 * Plain.rounded(pop(), 64));
            case 11: return push(pop() & -64L);
            case 20: store[arg] = pop(); return true;
            case 21: return push(store[arg]);
            case 22: return push(now[0][arg]);
            case 24: return push(now[1][arg]);
            case 23: return place(0, arg, pop());
            case 25: return place(1, arg, pop());
            case 26: return place(0, arg, 64 * Plain.rounded(now[0][arg], 64));
            case 27: return place(1, arg, 64 * Plain.rounded(now[1][arg], 64));
            case 28: return fit(0);
            case 29: return fit(1);
            default: return performTwo(op);
        }
    }

    private boolean performTwo(int op) {
        long b = pop();
        long a = pop();
        switch (op) {
            case 4: return push(a + b);
            case 5: return push(a - b);
            case 6: return push(Plain.rounded(a * b, 64));
            case 7: return push(Plain.rounded(64 * a, b));
            case 12: return push(a < b ? a : b);
            case 13: return push(a > b ? a : b);
            case 14: return push(a < b ? 64 : 0);
            default: return push(a == b ? 64 : 0);
        }
    }

    private boolean place(int axis, int k, long value) {
        now[axis][k] = value;
        touched[axis][k] = true;
        return Math.abs(value) <= MOST;
    }

    private boolean fit(int axis) {
        boolean good = true;
        for (int k = 0; k < outlineOf.length; k++) {
            if (!touched[axis][k]) {
                int a = nearest(axis, k, -1);
                int b = nearest(axis, k, 1);
                if (a >= 0) {
                    now[axis][k] = fitOne(axis, k, a, b);
                    good &= Math.abs(now[axis][k]) <= MOST;
                }
            }
        }
        return good;
    }

    /** The next touched point of the same outline, round; -1 without any. */
    private int nearest(int axis, int k, int step) {
        int n = outlineOf.length;
        for (int far = 1; far < n; far++) {
            // within one outline: a walk over all points, round, meets its own ones in their order
            int other = Math.floorMod(k + step * far, n);
            if (outlineOf[other] == outlineOf[k] && touched[axis][other]) {
                return other;
            }
        }
        return -1;
    }

    private long fitOne(int axis, int k, int a, int b) {
        long o = first[axis][k];
        long oa = first[axis][a];
        long ob = first[axis][b];
        long na = now[axis][a];
        long nb = now[axis][b];
        if (a == b) {
            return o + na - oa;
        }
        long u = Math.min(oa, ob);
        long v = Math.max(oa, ob);
        if (o <= u) {
            return oa == u ? o + na - oa : o + nb - ob;
        }
        if (o >= v) {
            return oa == v ? o + na - oa : o + nb - ob;
        }
        return na + Plain.rounded((o - oa) * (nb - na), ob - oa);
    }
}
