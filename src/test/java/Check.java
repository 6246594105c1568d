/** Counts answers that are not as due, and ends a test with exit code 1 if there was one. */
final class Check {
    private static int wrong = 0;
    private static int asked = 0;

    private Check() {
    }

    static void due(String call, long got, long want) {
        asked++;
        if (got != want) {
            wrong++;
            if (wrong <= 40) {
                System.out.println(call + " answered " + got + ", due is " + want);
            }
        }
    }

    static void due(String call, boolean got, boolean want) {
        due(call, got ? 1 : 0, want ? 1 : 0);
    }

    static boolean failed() {
        return wrong != 0;
    }

    static void end() {
        System.out.println(wrong + " of " + asked + " answers are not as due");
        if (wrong != 0) {
            System.exit(1);
        }
    }

    /** A closed outline of ON points. */
    static void polygon(LetterFoundry f, int l, int... xy) {
        f.outline(l);
        for (int k = 0; k + 1 < xy.length; k += 2) {
            f.point(l, xy[k], xy[k + 1], 0);
        }
        due("close", f.close(l), 0);
    }

    /** A closed outline of points x, y, kind. */
    static void outline(LetterFoundry f, int l, int... xyKind) {
        f.outline(l);
        for (int k = 0; k + 2 < xyKind.length; k += 3) {
            f.point(l, xyKind[k], xyKind[k + 1], xyKind[k + 2]);
        }
        due("close", f.close(l), 0);
    }

    /** A program of op, arg, op, arg, .. in place of the one that is there. */
    static void program(LetterFoundry f, int l, int... acts) {
        f.wipe(l);
        for (int k = 0; k + 1 < acts.length; k += 2) {
            due("act", f.act(l, acts[k], acts[k + 1]), k / 2 + 1);
        }
    }
}
