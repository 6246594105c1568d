import java.lang.reflect.Method;
import java.lang.reflect.Modifier;
import java.util.Arrays;
import java.util.HashMap;
import java.util.Map;
import java.util.Random;

/**
 * All promises: runs of 512 calls of any methods, each answer held against PlainFoundry. An argument
 * of a call has a role: mostly it is a number that can be, now and then one at an edge or beyond it.
 */
public final class ModelTest {
    private static final int CALLS = 512;
    private static final int[] ODD = {
        Integer.MIN_VALUE, -2000001, -100001, -100000, -32769, -32768, -32001, -32000, -2001, -2000, -17, -2, -1,
        0, 1, 2, 3, 4, 6, 8, 15, 16, 31, 32, 33, 40, 48, 60, 99, 100, 256, 257, 500, 2000, 2001, 10000, 32000, 32001,
        32767, 32768, 65535, 65536, 100000, 100001, 2000001, Integer.MAX_VALUE
    };
    /** Each call as often as it stands here, with the role of each argument. */
    private static final String[] OUTLINES = {
        "letter code width", "outline l", "outline l", "point l x y kind", "point l x y kind", "point l x y kind",
        "point l x y kind", "close l", "close l", "drop l", "move l k x y", "move l k x y", "reverse l o",
        "reverse l o", "info l what", "info l what", "at l k what", "at l k what", "at l k what", "find code", "FIGURE"
    };
    private static final String[] PARTS = {
        "letter code width", "part n n x y", "part n n x y", "part n n x y", "matrix n p m m m m",
        "matrix n p m m m m", "info n what", "info n what", "outline n", "flatten n t", "flatten n t"
    };
    private static final String[] FLAT = {
        "flatten l t", "flatten l t", "flat q what", "flat q what", "flat q what", "flat q what", "area", "crossings",
        "winding w w", "winding w w", "winding w w", "winding w w", "image l t s bit"
    };
    private static final String[] IMAGES = {
        "image l t s bit", "image l t s bit", "dot d d", "dot d d", "dot d d", "dot d d", "dot d d", "box what",
        "flatten l t", "flat q what"
    };
    private static final String[] PROGRAMS = {
        "act l op arg", "act l op arg", "act l push small", "act l push small", "wipe l", "run l s", "run l s",
        "fitted k what", "fitted k what", "fitted k what", "fitted k what", "PROGRAM"
    };
    private static final String[] MASTERS = {
        "delta l three k by by", "delta l three k by by", "delta l three k by by", "weight three m",
        "mixed l k bit", "mixed l k bit", "mixed l k bit", "reverse l o", "move l k x y"
    };
    private static final String[] LINES = {
        "classOf l bit c", "classOf l bit c", "kern c c by", "kern c c by", "exception l l by", "exception l l no",
        "kerning l l", "kerning l l", "kerning l l", "join code code third code", "sign code", "set",
        "placed r what", "placed r what", "placed r what", "placed r what", "length", "LINE"
    };
    private static final String[][] ALL = {OUTLINES, PARTS, FLAT, IMAGES, PROGRAMS, MASTERS, LINES};
    /** Which of ALL a run is about. */
    private static final int[][] THEMES = {
        {0}, {1, 2}, {3}, {0, 3}, {4}, {0, 4}, {5}, {0, 5}, {6}, {0, 1, 2, 3}, {0, 1, 2, 3, 4, 5, 6}
    };

    private final Random random;
    private final Map<String, Method> methods = new HashMap<>();
    private final LetterFoundry asked = new LetterFoundry();
    private final PlainFoundry due = new PlainFoundry();
    private final int size;
    private final int codes;
    private final boolean isBig;
    private final StringBuilder calls = new StringBuilder();
    private int made = 0;

    private ModelTest(long seed) {
        random = new Random(seed);
        size = random.nextInt(5) == 0 ? 32000 : within(5, 1400);
        codes = random.nextInt(12) == 0 ? 65535 : within(2, 30);
        isBig = random.nextBoolean();
        for (Method m : LetterFoundry.class.getDeclaredMethods()) {
            if (Modifier.isPublic(m.getModifiers())) {
                methods.put(m.getName(), m);
            }
        }
    }

    /** How many runs, and the first seed, may be told. */
    public static void main(String[] args) throws Exception {
        boolean isTold = args.length == 2;
        int runs = isTold ? Integer.parseInt(args[0]) : 900;
        int first = isTold ? Integer.parseInt(args[1]) : 0;
        for (int run = 0; run < runs && !Check.failed(); run++) {
            ModelTest test = new ModelTest(first + run);
            test.run(THEMES[(first + run) % THEMES.length]);
            if (Check.failed()) {
                System.out.println("seed " + (first + run) + ":\n" + test.calls);
            }
        }
        Check.end();
    }

    private void run(int[] theme) throws Exception {
        for (int k = 0; k < 12; k++) {
            call("letter code width");
        }
        for (int l = 0; l < 3; l++) {
            figure(l);
        }
        while (made < CALLS) {
            String[] from = ALL[theme[random.nextInt(theme.length)]];
            String next = from[random.nextInt(from.length)];
            switch (next) {
                case "FIGURE": figure(within(0, 4)); break;
                case "PROGRAM": program(within(0, 2)); break;
                case "LINE": line(); break;
                default: call(next); break;
            }
        }
    }

    /** A whole outline, so that letters come to hold something. */
    private void figure(int l) throws Exception {
        call("outline " + l);
        for (int k = within(2, 12); k > 0; k--) {
            call("point " + l + " x y kind");
        }
        for (int k = 0; k < 2; k++) {
            call("close " + l);
            call("point " + l + " x y kind");
        }
    }

    /** A whole program: its acts mostly find what they take, and what they leave comes to be places. */
    private void program(int l) throws Exception {
        call("wipe " + l);
        int height = 0;
        int acts = within(5, 45);
        for (int k = 0; k < acts; k++) {
            int op = random.nextInt(3) == 0 ? 0 : within(1, 29);
            op = op == 19 || PlainRun.needs(op) > height ? 0 : op;
            boolean goes = op >= 16 && op <= 18 && random.nextInt(10) > 0;
            call("act " + l + " " + op + " " + (op == 0 ? "small" : goes ? k + within(1, 3) : "arg"));
            height += PlainRun.grows(op) ? 1 : PlainRun.shrinks(op) ? -1 : 0;
        }
        for (int k = 0; k < height; k++) {
            call("act " + l + (random.nextBoolean() ? " 23" : " 25") + " k");
        }
        call("run " + l + " s");
        for (int k = 0; k < 12; k++) {
            call("fitted " + within(0, points(l)) + " what");
        }
    }

    private void line() throws Exception {
        for (int k = within(1, 30); k > 0; k--) {
            call("sign code");
        }
        call("set");
    }

    /** A word of a call is a number, or a role. */
    private void call(String text) throws Exception {
        String[] words = text.split(" ");
        int[] numbers = new int[words.length - 1];
        for (int k = 0; k < numbers.length; k++) {
            String word = words[k + 1];
            boolean isOdd = random.nextInt(80) == 0;
            numbers[k] = isOdd ? ODD[random.nextInt(ODD.length)]
                : word.matches("\\d+") ? Integer.parseInt(word) : number(word, numbers[0]);
        }
        if (made < CALLS && !Check.failed()) {
            compare(words[0], numbers);
        }
        made++;
    }

    private void compare(String name, int[] numbers) throws Exception {
        Object[] boxed = Arrays.stream(numbers).boxed().toArray();
        Object answer = methods.get(name).invoke(asked, boxed);
        long got = answer instanceof Boolean ? ((Boolean) answer ? 1 : 0) : ((Number) answer).longValue();
        calls.append(name).append(Arrays.toString(numbers)).append(" ").append(got).append("\n");
        Check.due(name + Arrays.toString(numbers), got, due.call(name, numbers));
    }

    private int within(int least, int most) {
        return least + random.nextInt(most - least + 1);
    }

    private int number(String role, int l) {
        switch (role) {
            case "l": return random.nextInt(4) == 0 ? within(0, due.letters.size()) : within(0, 4);
            case "n": return within(1, 8);
            case "code": return within(0, codes);
            case "third": return within(0, 2) == 0 ? -1 : within(0, codes);
            case "width": return within(0, 32000);
            case "x": case "y": return place();
            case "kind": return kind(l);
            case "k": return within(0, points(l));
            case "o": return within(0, 3);
            case "p": return within(0, 2);
            case "m": return random.nextInt(4) == 0 ? within(-32768, 32767) : 8192 * within(-3, 3);
            case "t": return random.nextBoolean() ? within(1, 256) : within(1, 12);
            case "q": return random.nextInt(4) == 0 ? within(0, 500) : within(0, 30);
            case "r": return random.nextInt(4) == 0 ? within(0, 60) : within(0, 10);
            case "what": return within(0, 7) < 6 ? within(0, 3) : within(0, 8);
            case "w": return 16 * place() + (random.nextBoolean() ? within(-1, 1) : within(-8 * size, 8 * size));
            default: return otherNumber(role, l);
        }
    }

    private int otherNumber(String role, int l) {
        switch (role) {
            case "s": return within(4, 32);
            case "bit": return within(0, 1);
            case "three": return within(0, 2);
            case "d": return within(-6, 14);
            case "push": return 0;
            case "op": return within(1, 29);
            case "small": return random.nextInt(isBig ? 2 : 9) == 0 ? within(-100000, 100000) : within(-150, 150);
            // of most acts that have one it is a point, a store or an act
            case "arg": return within(0, random.nextInt(4) == 0 ? 50 : 5);
            case "by": return within(-2000, 2000);
            case "no": return 10000;
            case "c": return random.nextInt(4) == 0 ? within(0, 15) : within(0, 2);
            default: throw new IllegalArgumentException(role);
        }
    }

    // Half of the places on a coarse grid, so that points meet and edges touch.
    private int place() {
        int grain = random.nextBoolean() ? 1 : Math.max(1, size / 6);
        return within(-size / 3, size) / grain * grain;
    }

    private int points(int l) {
        return 0 <= l && l < due.letters.size() ? due.letters.get(l).points().size() : 3;
    }

    // Mostly a kind that can stand there, so that outlines come to be closed.
    private int kind(int l) {
        if (l < 0 || l >= due.letters.size() || due.letters.get(l).open == null || random.nextInt(40) == 0) {
            return within(0, 2);
        }
        int behind = 1;
        int threes = 0;
        for (PlainFoundry.Point p : due.letters.get(l).open) {
            behind = p.kind;
            threes = p.kind == 2 ? threes + 1 : 0;
        }
        return behind == 0 ? within(0, 2) : threes == 1 ? 2 : 0;
    }
}
