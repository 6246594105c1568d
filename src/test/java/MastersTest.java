/** Promises 26 to 28: delta, weight, mixed. */
public final class MastersTest {
    public static void main(String[] args) {
        refusals();
        mixing();
        newPointsHaveNoDeltas();
        Check.end();
    }

    private static LetterFoundry withPoints() {
        LetterFoundry f = new LetterFoundry();
        f.letter(1, 0);
        Check.polygon(f, 0, 10, 20, 30, 40);
        return f;
    }

    private static void refusals() {
        LetterFoundry f = withPoints();
        f.outline(0);
        f.point(0, 1, 1, 0);
        for (int m = 0; m < 3; m++) {
            Check.due("weight", f.weight(m, 16384), true);
        }
        Check.due("master -1", f.weight(-1, 0), false);
        Check.due("master 3", f.weight(3, 0), false);
        Check.due("weight", f.weight(0, 32768), false);
        Check.due("weight", f.weight(0, -32769), false);
        Check.due("letter 1", f.delta(1, 0, 0, 0, 0), false);
        Check.due("master 3", f.delta(0, 3, 0, 1, 1), false);
        Check.due("master -1", f.delta(0, -1, 0, 1, 1), false);
        Check.due("point -1", f.delta(0, 0, -1, 1, 1), false);
        Check.due("an open one's", f.delta(0, 0, 2, 1, 1), false);
        Check.due("dx", f.delta(0, 0, 0, 2001, 1), false);
        Check.due("dx", f.delta(0, 0, 0, -2001, 1), false);
        Check.due("dy", f.delta(0, 0, 0, 1, 2001), false);
        Check.due("dy", f.delta(0, 0, 0, 1, -2001), false);
        Check.due("x stays", f.mixed(0, 0, 0), 10);
        Check.due("y stays", f.mixed(0, 0, 1), 20);
        Check.due("the edge", f.delta(0, 0, 0, -2000, 2000), true);
        Check.due("x", f.mixed(0, 0, 0), -1990);
        Check.due("y", f.mixed(0, 0, 1), 2020);
        Check.due("what 2", f.mixed(0, 0, 2), -100000);
        Check.due("what -1", f.mixed(0, 0, -1), -100000);
        Check.due("letter 1", f.mixed(1, 0, 0), -100000);
        Check.due("point -1", f.mixed(0, -1, 0), -100000);
        Check.due("an open one's", f.mixed(0, 2, 0), -100000);
    }

    private static void mixing() {
        LetterFoundry f = withPoints();
        f.delta(0, 0, 1, 100, 1);
        f.delta(0, 1, 1, -50, 3);
        f.delta(0, 2, 1, 7, -5);
        Check.due("weights are 0 at first", f.mixed(0, 1, 0), 30);
        f.weight(0, 32767);
        Check.due("x", f.mixed(0, 1, 0), 230);
        f.weight(0, 8192);
        Check.due("to the even", f.mixed(0, 1, 1), 40);
        f.weight(0, 0);
        f.weight(1, 8192);
        Check.due("x", f.mixed(0, 1, 0), 5);
        Check.due("1.5 to 2", f.mixed(0, 1, 1), 42);
        f.weight(1, 0);
        f.weight(2, -8192);
        Check.due("-3.5 to -4", f.mixed(0, 1, 0), 26);
        Check.due("2.5 to 2", f.mixed(0, 1, 1), 42);
        f.weight(0, 16384);
        f.weight(1, -16384);
        f.weight(2, -32768);
        Check.due("all three", f.mixed(0, 1, 0), 30 + 100 + 50 - 14);
        Check.due("all three", f.mixed(0, 1, 1), 40 + 1 - 3 + 10);
        Check.due("the other point", f.mixed(0, 0, 0), 10);
        // rounded of the sum, not of each: 0.5 + 0.5
        f.weight(0, 8192);
        f.weight(1, 8192);
        f.weight(2, 0);
        f.delta(0, 0, 1, 1, 1);
        f.delta(0, 1, 1, 1, 1);
        Check.due("the sum is rounded", f.mixed(0, 1, 0), 31);
        f.move(0, 1, 300, 0);
        Check.due("deltas stay when it moves", f.mixed(0, 1, 0), 301);
    }

    private static void newPointsHaveNoDeltas() {
        LetterFoundry f = withPoints();
        for (int m = 0; m < 3; m++) {
            f.weight(m, 16384);
            f.delta(0, m, 1, 100, 100);
        }
        f.drop(0);
        Check.polygon(f, 0, 10, 20, 30, 40);
        Check.due("x", f.mixed(0, 1, 0), 30);
        Check.due("y", f.mixed(0, 1, 1), 40);
    }
}
