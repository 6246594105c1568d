import java.util.ArrayList;
import java.util.HashMap;
import java.util.List;
import java.util.Map;

/** A second reading of the whole document: every call with its state, as plain and as slow as its words. */
final class PlainFoundry {
    static final class Point {
        int x;
        int y;
        final int kind;
        final int[][] deltas = new int[3][2];

        Point(int x, int y, int kind) {
            this.x = x;
            this.y = y;
            this.kind = kind;
        }
    }

    static final class Part {
        final Letter of;
        final int[] matrix = {16384, 0, 0, 16384, 0, 0};

        Part(Letter of, int dx, int dy) {
            this.of = of;
            matrix[4] = dx;
            matrix[5] = dy;
        }
    }

    static final class Letter {
        final int code;
        final int width;
        final List<List<Point>> outlines = new ArrayList<>();
        List<Point> open = null;
        final List<Part> parts = new ArrayList<>();
        final List<int[]> acts = new ArrayList<>();
        final int[] classes = new int[2];

        Letter(int code, int width) {
            this.code = code;
            this.width = width;
        }

        int depth() {
            int greatest = -1;
            for (Part part : parts) {
                greatest = Math.max(greatest, part.of.depth());
            }
            return greatest + 1;
        }

        List<Point> points() {
            List<Point> all = new ArrayList<>();
            outlines.forEach(all::addAll);
            return all;
        }

        Plain.Glyph glyph() {
            Plain.Glyph glyph = new Plain.Glyph();
            for (List<Point> outline : outlines) {
                List<long[]> points = new ArrayList<>();
                for (Point p : outline) {
                    points.add(new long[] {p.x, p.y, p.kind});
                }
                glyph.outlines.add(points);
            }
            for (Part part : parts) {
                glyph.parts.add(part.of.glyph());
                glyph.matrices.add(part.matrix);
            }
            return glyph;
        }
    }

    final List<Letter> letters = new ArrayList<>();
    private List<List<long[]>> polygons = new ArrayList<>();
    private Map<List<Integer>, Integer> image = new HashMap<>();
    private PlainRun run = null;
    private final int[] weights = new int[3];
    private final Map<List<Integer>, Integer> ofClasses = new HashMap<>();
    private final Map<List<Integer>, Integer> ofLetters = new HashMap<>();
    private final List<int[]> rules = new ArrayList<>();
    private final List<Integer> line = new ArrayList<>();
    private List<int[]> placed = new ArrayList<>();

    /** What the call is due to answer; true counts 1, false 0. */
    long call(String name, int... a) {
        switch (name) {
            case "letter": return letter(a[0], a[1]);
            case "find": return find(a[0]);
            case "outline": return outline(a[0]);
            case "point": return point(a[0], a[1], a[2], a[3]);
            case "close": return close(a[0]);
            case "drop": return drop(a[0]);
            case "move": return move(a[0], a[1], a[2], a[3]);
            case "reverse": return reverse(a[0], a[1]);
            case "part": return part(a[0], a[1], a[2], a[3]);
            case "matrix": return matrix(a);
            case "info": return info(a[0], a[1]);
            case "at": return at(a[0], a[1], a[2]);
            case "act": return act(a[0], a[1], a[2]);
            case "wipe": return wipe(a[0]);
            case "run": return run(a[0], a[1]);
            case "fitted": return fitted(a[0], a[1]);
            case "delta": return delta(a);
            case "weight": return weight(a[0], a[1]);
            case "mixed": return mixed(a[0], a[1], a[2]);
            default: return callMore(name, a);
        }
    }

    private long callMore(String name, int... a) {
        switch (name) {
            case "flatten": return flatten(a[0], a[1]);
            case "flat": return flat(a[0], a[1]);
            case "area": return area();
            case "winding": return winding(a[0], a[1]);
            case "crossings": return Plain.crossings(Plain.edges(polygons));
            case "image": return image(a[0], a[1], a[2], a[3]);
            case "dot": return image.getOrDefault(List.of(a[0], a[1]), 0);
            case "box": return box(a[0]);
            case "classOf": return classOf(a[0], a[1], a[2]);
            case "kern": return kern(a[0], a[1], a[2]);
            case "exception": return exception(a[0], a[1], a[2]);
            case "kerning": return kerning(a[0], a[1]);
            case "join": return join(a[0], a[1], a[2], a[3]);
            case "sign": return sign(a[0]);
            case "set": return set();
            case "placed": return placed(a[0], a[1]);
            case "length": return length();
            default: throw new IllegalArgumentException(name);
        }
    }

    private static boolean in(int value, int least, int most) {
        return least <= value && value <= most;
    }

    private boolean isLetter(int l) {
        return in(l, 0, letters.size() - 1);
    }

    private boolean isPoint(int l, int k) {
        return isLetter(l) && in(k, 0, letters.get(l).points().size() - 1);
    }

    // Promises 1 to 3

    private int letter(int code, int width) {
        if (!in(code, 0, 65535) || !in(width, 0, 32000) || find(code) >= 0 || letters.size() == 32) {
            return -1;
        }
        letters.add(new Letter(code, width));
        return letters.size() - 1;
    }

    private int find(int code) {
        for (Letter letter : letters) {
            if (letter.code == code) {
                return letters.indexOf(letter);
            }
        }
        return -1;
    }

    // Promises 4 to 9

    private int outline(int l) {
        if (!isLetter(l)) {
            return -1;
        }
        Letter letter = letters.get(l);
        if (letter.open != null || !letter.parts.isEmpty() || letter.outlines.size() == 8) {
            return -1;
        }
        letter.open = new ArrayList<>();
        return letter.outlines.size();
    }

    private int point(int l, int x, int y, int kind) {
        if (!isLetter(l) || !in(x, -32000, 32000) || !in(y, -32000, 32000) || !in(kind, 0, 2)) {
            return -1;
        }
        Letter letter = letters.get(l);
        if (letter.open == null || letter.points().size() + letter.open.size() == 100) {
            return -1;
        }
        letter.open.add(new Point(x, y, kind));
        return letter.open.size();
    }

    private int close(int l) {
        if (!isLetter(l) || letters.get(l).open == null) {
            return -2;
        }
        Letter letter = letters.get(l);
        int bad = firstBad(letter.open);
        if (bad >= 0) {
            return 1 + bad;
        }
        letter.outlines.add(letter.open);
        letter.open = null;
        return 0;
    }

    private static int firstBad(List<Point> points) {
        StringBuilder kinds = new StringBuilder();
        for (Point p : points) {
            kinds.append(p.kind);
            if (!kinds.toString().matches("0(0|10|220)*(1|2|22)?")) {
                return kinds.length() - 1;
            }
        }
        boolean isGood = kinds.length() >= 2 && kinds.toString().matches("0(0|10|220)*(1|22)?");
        return isGood ? -1 : kinds.length();
    }

    private int drop(int l) {
        if (!isLetter(l) || (letters.get(l).open == null && letters.get(l).outlines.isEmpty())) {
            return -1;
        }
        Letter letter = letters.get(l);
        if (letter.open != null) {
            letter.open = null;
        } else {
            letter.outlines.remove(letter.outlines.size() - 1);
        }
        return letter.outlines.size();
    }

    private int move(int l, int k, int x, int y) {
        if (!isPoint(l, k) || !in(x, -32000, 32000) || !in(y, -32000, 32000)) {
            return 0;
        }
        Point p = letters.get(l).points().get(k);
        p.x = x;
        p.y = y;
        return 1;
    }

    private int reverse(int l, int o) {
        if (!isLetter(l) || !in(o, 0, letters.get(l).outlines.size() - 1)) {
            return 0;
        }
        List<Point> outline = letters.get(l).outlines.get(o);
        for (int k = 1; k < outline.size(); k++) {
            outline.add(1, outline.remove(k));
        }
        return 1;
    }

    // Promises 10 to 13

    private int part(int l, int of, int dx, int dy) {
        if (!isLetter(l) || !isLetter(of) || l == of || !in(dx, -32000, 32000) || !in(dy, -32000, 32000)) {
            return -1;
        }
        Letter letter = letters.get(l);
        for (Letter other : letters) {
            for (Part part : other.parts) {
                if (part.of == letter) {
                    return -1;
                }
            }
        }
        if (letter.open != null || !letter.outlines.isEmpty() || letters.get(of).depth() == 4
                || letter.parts.size() == 6) {
            return -1;
        }
        letter.parts.add(new Part(letters.get(of), dx, dy));
        return letter.parts.size() - 1;
    }

    private int matrix(int[] a) {
        if (!isLetter(a[0]) || !in(a[1], 0, letters.get(a[0]).parts.size() - 1)) {
            return 0;
        }
        for (int k = 2; k < 6; k++) {
            if (!in(a[k], -32768, 32767)) {
                return 0;
            }
        }
        System.arraycopy(a, 2, letters.get(a[0]).parts.get(a[1]).matrix, 0, 4);
        return 1;
    }

    private int info(int l, int what) {
        if (!isLetter(l) || !in(what, 0, 7)) {
            return -2;
        }
        Letter letter = letters.get(l);
        int open = letter.open == null ? -1 : letter.open.size();
        return new int[] {letter.code, letter.width, letter.outlines.size(), letter.points().size(),
            letter.parts.size(), letter.depth(), open, letter.acts.size()}[what];
    }

    private int at(int l, int k, int what) {
        if (!isPoint(l, k) || !in(what, 0, 3)) {
            return -100000;
        }
        Point p = letters.get(l).points().get(k);
        int outline = 0;
        while (!letters.get(l).outlines.get(outline).contains(p)) {
            outline++;
        }
        return new int[] {p.x, p.y, p.kind, outline}[what];
    }

    // Promises 14 to 21

    private int flatten(int l, int t) {
        List<List<long[]>> made = isLetter(l) && in(t, 1, 256) ? Plain.flatten(letters.get(l).glyph(), t) : null;
        if (made == null) {
            return -1;
        }
        polygons = made;
        return Plain.edges(made).size();
    }

    private long flat(int k, int what) {
        int first = 0;
        for (int p = 0; p < polygons.size(); p++) {
            int size = polygons.get(p).size();
            if (in(k, first, first + size - 1) && in(what, 0, 2)) {
                return what == 0 ? p : polygons.get(p).get(k - first)[what - 1];
            }
            first += size;
        }
        return -1000000;
    }

    private long area() {
        long sum = 0;
        for (long[] e : Plain.edges(polygons)) {
            sum += e[0] * e[3] - e[1] * e[2];
        }
        return sum;
    }

    private int winding(int x, int y) {
        boolean isAsked = in(x, -2000000, 2000000) && in(y, -2000000, 2000000);
        return isAsked ? Plain.winding(Plain.edges(polygons), x, y, 16) : 0;
    }

    private int image(int l, int t, int s, int rule) {
        boolean canBe = isLetter(l) && in(t, 1, 256) && in(s, 4, 32) && in(rule, 0, 1);
        List<List<long[]>> made = canBe ? Plain.flatten(letters.get(l).glyph(), t) : null;
        if (made == null || !Plain.hasImage(made, s)) {
            return -1;
        }
        polygons = made;
        image = new HashMap<>();
        List<long[]> edges = Plain.edges(made);
        for (int i = -16; i < 48; i++) {
            for (int j = -16; j < 48; j++) {
                int count = Plain.mayBeFilled(edges, i, j, s) ? Plain.count(edges, i, j, s, rule) : 0;
                if (count > 0) {
                    image.put(List.of(i, j), count);
                }
            }
        }
        return image.size();
    }

    private int box(int what) {
        int edge = -1000;
        for (List<Integer> dot : image.keySet()) {
            if (in(what, 0, 3)) {
                int place = dot.get(what % 2);
                edge = edge == -1000 ? place : what < 2 ? Math.min(edge, place) : Math.max(edge, place);
            }
        }
        return edge;
    }

    // Promises 22 to 25

    private int act(int l, int op, int arg) {
        boolean canBe = isLetter(l) && in(op, 0, 30) && in(arg, -100000, 100000);
        if (!canBe || !letters.get(l).parts.isEmpty() || letters.get(l).acts.size() == 100) {
            return -1;
        }
        letters.get(l).acts.add(new int[] {op, arg});
        return letters.get(l).acts.size();
    }

    private int wipe(int l) {
        if (!isLetter(l)) {
            return -1;
        }
        int were = letters.get(l).acts.size();
        letters.get(l).acts.clear();
        return were;
    }

    private int run(int l, int s) {
        if (!isLetter(l) || !letters.get(l).parts.isEmpty() || !in(s, 4, 32)) {
            return -1;
        }
        PlainRun made = new PlainRun(letters.get(l).glyph().outlines, s);
        int fault = made.run(letters.get(l).acts);
        run = fault == 0 ? made : run;
        return fault;
    }

    private long fitted(int k, int what) {
        if (run == null || !in(k, 0, run.now[0].length - 1) || !in(what, 0, 3)) {
            return -2000000000;
        }
        return what < 2 ? run.now[what][k] : run.touched[what - 2][k] ? 1 : 0;
    }

    // Promises 26 to 28

    private int delta(int[] a) {
        boolean canBe = in(a[1], 0, 2) && in(a[3], -2000, 2000) && in(a[4], -2000, 2000);
        if (!isPoint(a[0], a[2]) || !canBe) {
            return 0;
        }
        letters.get(a[0]).points().get(a[2]).deltas[a[1]] = new int[] {a[3], a[4]};
        return 1;
    }

    private int weight(int master, int w) {
        if (!in(master, 0, 2) || !in(w, -32768, 32767)) {
            return 0;
        }
        weights[master] = w;
        return 1;
    }

    private long mixed(int l, int k, int what) {
        if (!isPoint(l, k) || !in(what, 0, 1)) {
            return -100000;
        }
        Point p = letters.get(l).points().get(k);
        long sum = 0;
        for (int m = 0; m < 3; m++) {
            sum += (long) weights[m] * p.deltas[m][what];
        }
        return (what == 0 ? p.x : p.y) + Plain.rounded(sum, 16384);
    }

    // Promises 29 to 32

    private int classOf(int l, int side, int c) {
        if (!isLetter(l) || !in(side, 0, 1) || !in(c, 0, 15)) {
            return 0;
        }
        letters.get(l).classes[side] = c;
        return 1;
    }

    private int kern(int right, int left, int by) {
        if (!in(right, 0, 15) || !in(left, 0, 15) || !in(by, -2000, 2000)) {
            return 0;
        }
        ofClasses.put(List.of(right, left), by);
        return 1;
    }

    private int exception(int l, int m, int by) {
        if (!isLetter(l) || !isLetter(m) || !(in(by, -2000, 2000) || by == 10000)) {
            return 0;
        }
        ofLetters.put(List.of(l, m), by);
        ofLetters.remove(List.of(l, m), 10000);
        return 1;
    }

    private int kerning(int l, int m) {
        if (!isLetter(l) || !isLetter(m)) {
            return 0;
        }
        List<Integer> classes = List.of(letters.get(l).classes[1], letters.get(m).classes[0]);
        return ofLetters.getOrDefault(List.of(l, m), ofClasses.getOrDefault(classes, 0));
    }

    // Promises 33 to 37

    private int join(int a, int b, int c, int to) {
        boolean canBe = in(a, 0, 65535) && in(b, 0, 65535) && in(c, -1, 65535) && in(to, 0, 65535);
        if (!canBe || rules.size() == 40) {
            return -1;
        }
        rules.add(c < 0 ? new int[] {to, a, b} : new int[] {to, a, b, c});
        return rules.size();
    }

    private int sign(int code) {
        if (!in(code, 0, 65535) || line.size() == 60) {
            return -1;
        }
        line.add(code);
        return line.size();
    }

    private int set() {
        placed = new ArrayList<>();
        int first = 0;
        while (first < line.size()) {
            int[] rule = ruleAt(first);
            int l = find(rule[0]) >= 0 ? find(rule[0]) : find(0);
            if (l >= 0) {
                int last = placed.isEmpty() ? -1 : placed.get(placed.size() - 1)[0];
                placed.add(new int[] {l, length() + (last < 0 ? 0 : kerning(last, l)), first});
            }
            first += rule.length - 1;
        }
        line.clear();
        return placed.size();
    }

    /** A sign without a RULE is one that becomes itself. */
    private int[] ruleAt(int first) {
        int[] best = {line.get(first), line.get(first)};
        for (int[] rule : rules) {
            boolean fits = first + rule.length - 1 <= line.size();
            for (int k = 1; k < rule.length && fits; k++) {
                fits = line.get(first + k - 1) == rule[k];
            }
            best = fits && rule.length > best.length ? rule : best;
        }
        return best;
    }

    private int placed(int k, int what) {
        boolean isThere = in(k, 0, placed.size() - 1) && in(what, 0, 2);
        return isThere ? placed.get(k)[what] : -1000000;
    }

    private int length() {
        if (placed.isEmpty()) {
            return 0;
        }
        int[] last = placed.get(placed.size() - 1);
        return last[1] + letters.get(last[0]).width;
    }
}
