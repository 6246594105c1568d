/** Every call that changes something is seen by Same: else 'changes nothing' would tell nothing. */
public final class SameTest {
    public static void main(String[] args) {
        letters();
        latest();
        programs();
        masters();
        kernings();
        lines();
        Same.due("nothing at all", Bench.RICH, f -> { });
        Check.end();
    }

    private static void seen(String what, Same.Script call) {
        Same.notDue(what, Bench.RICH, call);
    }

    private static void letters() {
        seen("letter", f -> f.letter(50000, 1));
        seen("outline", f -> f.outline(4));
        seen("point", f -> f.point(1, 3, 3, 0));
        seen("point's x", f -> {
            f.drop(1);
            f.outline(1);
            f.point(1, 6, 8, 0);
            f.point(1, 9, 10, 2);
        });
        seen("point's kind", f -> {
            f.drop(1);
            f.outline(1);
            f.point(1, 7, 8, 0);
            f.point(1, 9, 10, 1);
        });
        seen("close", f -> {
            f.point(1, 3, 3, 2);
            f.close(1);
        });
        seen("drop an open one", f -> f.drop(5));
        seen("drop a closed one", f -> f.drop(0));
        seen("move x", f -> f.move(0, 6, 301, 100));
        seen("move y", f -> f.move(0, 6, 300, 101));
        seen("reverse", f -> f.reverse(0, 1));
        seen("part", f -> f.part(4, 6, 0, 0));
        seen("part of one with outlines", f -> f.part(3, 0, 0, 0));
        seen("matrix", f -> f.matrix(2, 0, 8192, 100, -100, -8000));
        seen("matrix of the other part", f -> f.matrix(2, 1, 16384, 200, 0, 16384));
    }

    private static void latest() {
        seen("flatten", f -> f.flatten(1, 200));
        seen("flatten of none", f -> f.flatten(4, 1));
        seen("image", f -> f.image(0, 4, 17, 1));
        seen("image of none", f -> f.image(4, 4, 16, 0));
        seen("run", f -> f.run(0, 13));
        seen("run of none", f -> f.run(4, 12));
    }

    private static void programs() {
        seen("act", f -> f.act(4, 30, 0));
        seen("act with a point", f -> f.act(0, 26, 5));
        seen("wipe", f -> f.wipe(1));
    }

    private static void masters() {
        for (int m = 0; m < 3; m++) {
            int master = m;
            seen("weight", f -> f.weight(master, 5000));
            seen("delta x", f -> f.delta(1, master, 2, 1, 0));
            seen("delta y", f -> f.delta(0, master, 5, 0, 1));
        }
    }

    private static void kernings() {
        seen("left class", f -> f.classOf(2, 0, 9));
        seen("right class", f -> f.classOf(2, 1, 14));
        for (int c = 0; c < 16; c++) {
            int own = c;
            seen("kern", f -> f.kern(own, 15 - own, 123));
        }
        seen("exception", f -> f.exception(3, 4, 123));
        seen("exception of what the classes tell", f -> {
            f.exception(3, 4, f.kerning(3, 4));
        });
        seen("no exception any more", f -> f.exception(1, 1, 10000));
    }

    private static void lines() {
        seen("join", f -> f.join(60, 60, -1, 1));
        seen("join of three", f -> f.join(5, 5, 2, 1));
        seen("sign", f -> f.sign(1));
        seen("set", f -> f.set());
        seen("set of the same signs", f -> {
            f.set();
            f.sign(3);
            f.sign(1);
        });
    }
}
