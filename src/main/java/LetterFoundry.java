import java.util.Arrays;

/**
 * A bench for typefaces: letters of outlines or of other letters, flattened, drawn, fitted to a
 * grid, mixed from masters, kerned and set in lines. Every call answers; none throws.
 */
public final class LetterFoundry {
    public static final int NONE = -1;

    private static final int NO_SUCH = -2;
    private static final int NO_PLACE = -100000;
    private static final int NO_FLAT = -1000000;
    private static final int NO_FITTED = -2000000000;

    private static final int LETTERS = 32;
    private static final int OUTLINES = 8;
    private static final int POINTS = 100;
    private static final int PARTS = 6;
    private static final int DEPTH = 4;
    private static final int ACTS = 100;
    private static final int MASTERS = 3;
    private static final int CLASSES = 16;

    private static final int CODE_MOST = 65535;
    private static final int STEP_MOST = 32000;
    private static final int BY_MOST = 2000;
    private static final int SHORT_LEAST = -32768;
    private static final int SHORT_MOST = 32767;
    private static final int UNIT = 16384;
    private static final int ARG_MOST = 100000;
    private static final int LAST_OP = 30;
    private static final int DOTS_LEAST = 4;
    private static final int DOTS_MOST = 32;
    private static final int NEARNESS_MOST = 256;
    private static final int WINDING_MOST = 2000000;

    private final Letter[] letters;
    private int letterCount;
    private final Flattener flattener;
    private Polygons polygons;
    private Polygons sparePolygons;
    private final Image picture;
    private final Runner runner;
    private Fitting fitting;
    private Fitting spareFitting;
    private final int[] weights;
    private final Kerning kernings;
    private final Line line;

    public LetterFoundry() {
        letters = new Letter[LETTERS];
        letterCount = 0;
        flattener = new Flattener();
        polygons = new Polygons();
        sparePolygons = new Polygons();
        picture = new Image();
        runner = new Runner();
        fitting = new Fitting();
        spareFitting = new Fitting();
        weights = new int[MASTERS];
        kernings = new Kerning();
        line = new Line();
    }

    public int letter(int code, int width) {
        if (!isCode(code) || !within(width, 0, STEP_MOST) || letterCount >= LETTERS) {
            return NONE;
        }
        if (find(code) != NONE) {
            return NONE;
        }
        letters[letterCount] = new Letter(code, width);
        letterCount++;
        return letterCount - 1;
    }

    public int find(int code) {
        return indexOfCode(letters, letterCount, code);
    }

    public int outline(int l) {
        Letter letter = letterOf(l);
        if (letter == null || letter.partCount > 0) {
            return NONE;
        }
        return letter.shape.begin();
    }

    public int point(int l, int x, int y, int kind) {
        Letter letter = letterOf(l);
        if (letter == null || !isPlace(x, y) || !within(kind, 0, 2)) {
            return NONE;
        }
        return letter.shape.add(x, y, kind);
    }

    public int close(int l) {
        Letter letter = letterOf(l);
        if (letter == null || !letter.shape.open) {
            return NO_SUCH;
        }
        return letter.shape.finish();
    }

    public int drop(int l) {
        Letter letter = letterOf(l);
        return letter == null ? NONE : letter.shape.removeLast();
    }

    public boolean move(int l, int k, int x, int y) {
        Letter letter = letterOf(l);
        if (letter == null || !letter.shape.hasPoint(k) || !isPlace(x, y)) {
            return false;
        }
        letter.shape.x[k] = x;
        letter.shape.y[k] = y;
        return true;
    }

    public boolean reverse(int l, int o) {
        Letter letter = letterOf(l);
        if (letter == null || !within(o, 0, letter.shape.closed - 1)) {
            return false;
        }
        letter.shape.turn(o);
        return true;
    }

    public int part(int l, int of, int dx, int dy) {
        Letter letter = letterOf(l);
        Letter other = letterOf(of);
        if (letter == null || other == null || l == of || !isPlace(dx, dy)) {
            return NONE;
        }
        if (letter.shape.hasAny() || letter.isPart || other.depth >= DEPTH) {
            return NONE;
        }
        return letter.addPart(other, dx, dy);
    }

    public boolean matrix(int l, int part, int xx, int xy, int yx, int yy) {
        Letter letter = letterOf(l);
        Part found = letter == null ? null : letter.partOf(part);
        if (found == null || !isShort(xx) || !isShort(xy) || !isShort(yx) || !isShort(yy)) {
            return false;
        }
        found.turnBy(xx, xy, yx, yy);
        return true;
    }

    public int info(int l, int what) {
        Letter letter = letterOf(l);
        if (letter == null) {
            return NO_SUCH;
        }
        switch (what) {
            case 0: return letter.code;
            case 1: return letter.width;
            case 2: return letter.shape.closed;
            case 3: return letter.shape.closedPoints();
            case 4: return letter.partCount;
            case 5: return letter.depth;
            case 6: return letter.shape.open ? letter.shape.openPoints() : NONE;
            case 7: return letter.program.count;
            default: return NO_SUCH;
        }
    }

    public int at(int l, int k, int what) {
        Letter letter = letterOf(l);
        if (letter == null || !letter.shape.hasPoint(k)) {
            return NO_PLACE;
        }
        switch (what) {
            case 0: return letter.shape.x[k];
            case 1: return letter.shape.y[k];
            case 2: return letter.shape.kind[k];
            case 3: return letter.shape.outlineWith(k);
            default: return NO_PLACE;
        }
    }

    public int flatten(int l, int t) {
        if (!flattener.fill(letterOf(l), t, sparePolygons)) {
            return NONE;
        }
        takeSparePolygons();
        return polygons.count;
    }

    public int flat(int k, int what) {
        if (!within(k, 0, polygons.count - 1)) {
            return NO_FLAT;
        }
        switch (what) {
            case 0: return polygons.number[k];
            case 1: return polygons.x[k];
            case 2: return polygons.y[k];
            default: return NO_FLAT;
        }
    }

    public long area() {
        return polygons.doubleArea();
    }

    public int winding(int x, int y) {
        if (!within(x, -WINDING_MOST, WINDING_MOST) || !within(y, -WINDING_MOST, WINDING_MOST)) {
            return 0;
        }
        return polygons.turnsAround(x, y);
    }

    public int crossings() {
        return polygons.crossingPairs();
    }

    public int image(int l, int t, int s, int rule) {
        if (!isDots(s) || !within(rule, 0, 1)) {
            return NONE;
        }
        if (!flattener.fill(letterOf(l), t, sparePolygons) || !Image.holds(sparePolygons, s)) {
            return NONE;
        }
        takeSparePolygons();
        picture.draw(polygons, s, rule);
        return picture.filled;
    }

    public int dot(int i, int j) {
        return picture.countAt(i, j);
    }

    public int box(int what) {
        return picture.edge(what);
    }

    public int act(int l, int op, int arg) {
        Letter letter = letterOf(l);
        if (letter == null || letter.partCount > 0) {
            return NONE;
        }
        if (!within(op, 0, LAST_OP) || !within(arg, -ARG_MOST, ARG_MOST)) {
            return NONE;
        }
        return letter.program.add(op, arg);
    }

    public int wipe(int l) {
        Letter letter = letterOf(l);
        return letter == null ? NONE : letter.program.clear();
    }

    public int run(int l, int s) {
        Letter letter = letterOf(l);
        if (letter == null || letter.partCount > 0 || !isDots(s)) {
            return NONE;
        }
        spareFitting.start(letter.shape, s);
        int fault = runner.perform(letter.program, spareFitting);
        if (fault == 0) {
            Fitting old = fitting;
            fitting = spareFitting;
            spareFitting = old;
        }
        return fault;
    }

    public int fitted(int k, int what) {
        if (!fitting.hasPoint(k)) {
            return NO_FITTED;
        }
        switch (what) {
            case 0: return fitting.now[0][k];
            case 1: return fitting.now[1][k];
            case 2: return fitting.touched[0][k];
            case 3: return fitting.touched[1][k];
            default: return NO_FITTED;
        }
    }

    public boolean delta(int l, int master, int k, int dx, int dy) {
        Letter letter = letterOf(l);
        if (letter == null || !isMaster(master) || !letter.shape.hasPoint(k)) {
            return false;
        }
        if (!isBy(dx) || !isBy(dy)) {
            return false;
        }
        letter.shape.dx[master][k] = dx;
        letter.shape.dy[master][k] = dy;
        return true;
    }

    public boolean weight(int master, int w) {
        if (!isMaster(master) || !isShort(w)) {
            return false;
        }
        weights[master] = w;
        return true;
    }

    public int mixed(int l, int k, int what) {
        Letter letter = letterOf(l);
        if (letter == null || !letter.shape.hasPoint(k)) {
            return NO_PLACE;
        }
        Shape shape = letter.shape;
        switch (what) {
            case 0: return shape.x[k] + weighed(shape.dx, k);
            case 1: return shape.y[k] + weighed(shape.dy, k);
            default: return NO_PLACE;
        }
    }

    public boolean classOf(int l, int side, int c) {
        Letter letter = letterOf(l);
        if (letter == null || !within(side, 0, 1) || !isClass(c)) {
            return false;
        }
        if (side == 0) {
            letter.leftClass = c;
        } else {
            letter.rightClass = c;
        }
        return true;
    }

    public boolean kern(int right, int left, int by) {
        if (!isClass(right) || !isClass(left) || !isBy(by)) {
            return false;
        }
        kernings.ofClasses[right][left] = by;
        return true;
    }

    public boolean exception(int l, int m, int by) {
        if (letterOf(l) == null || letterOf(m) == null) {
            return false;
        }
        if (!isBy(by) && by != Kerning.NOTHING) {
            return false;
        }
        kernings.ofLetters[l][m] = by;
        return true;
    }

    public int kerning(int l, int m) {
        return kernings.between(letters, l, m);
    }

    public int join(int a, int b, int c, int to) {
        if (!isCode(a) || !isCode(b) || !isCode(to) || !(isCode(c) || c == NONE)) {
            return NONE;
        }
        return line.addRule(a, b, c, to);
    }

    public int sign(int code) {
        return isCode(code) ? line.addSign(code) : NONE;
    }

    public int set() {
        line.compose(letters, letterCount, kernings);
        return line.placedCount;
    }

    public int placed(int k, int what) {
        if (!within(k, 0, line.placedCount - 1)) {
            return NO_FLAT;
        }
        switch (what) {
            case 0: return line.placedLetter[k];
            case 1: return line.placedAt[k];
            case 2: return line.placedSign[k];
            default: return NO_FLAT;
        }
    }

    public int length() {
        return line.end;
    }

    private Letter letterOf(int l) {
        return within(l, 0, letterCount - 1) ? letters[l] : null;
    }

    private void takeSparePolygons() {
        Polygons old = polygons;
        polygons = sparePolygons;
        sparePolygons = old;
    }

    private int weighed(int[][] deltas, int k) {
        long sum = 0;
        for (int m = 0; m < MASTERS; m++) {
            sum += (long) weights[m] * deltas[m][k];
        }
        return (int) rounded(sum, UNIT);
    }

    private static int indexOfCode(Letter[] letters, int count, int code) {
        for (int l = 0; l < count && l < letters.length; l++) {
            if (letters[l] != null && letters[l].code == code) {
                return l;
            }
        }
        return NONE;
    }

    private static boolean within(long value, long least, long most) {
        return value >= least && value <= most;
    }

    private static boolean isCode(int code) {
        return within(code, 0, CODE_MOST);
    }

    private static boolean isPlace(int x, int y) {
        return within(x, -STEP_MOST, STEP_MOST) && within(y, -STEP_MOST, STEP_MOST);
    }

    private static boolean isShort(int value) {
        return within(value, SHORT_LEAST, SHORT_MOST);
    }

    private static boolean isBy(int by) {
        return within(by, -BY_MOST, BY_MOST);
    }

    private static boolean isMaster(int master) {
        return within(master, 0, MASTERS - 1);
    }

    private static boolean isClass(int c) {
        return within(c, 0, CLASSES - 1);
    }

    private static boolean isDots(int s) {
        return within(s, DOTS_LEAST, DOTS_MOST);
    }

    /** To the nearest, of two as near the even one; b may be below 0. */
    private static long rounded(long a, long b) {
        if (b == 0) {
            return 0;
        }
        long over = b < 0 ? -a : a;
        long under = Math.abs(b);
        long whole = Math.floorDiv(over, under);
        long twiceRest = 2 * (over - whole * under);
        boolean up = twiceRest > under || (twiceRest == under && (whole & 1) != 0);
        return up ? whole + 1 : whole;
    }

    /** A letter: either its shape has outlines, or it has parts, never both. */
    private static final class Letter {
        final int code;
        final int width;
        final Shape shape = new Shape();
        final Program program = new Program();
        final Part[] parts = new Part[PARTS];
        int partCount;
        boolean isPart;
        int depth;
        int leftClass;
        int rightClass;

        Letter(int code, int width) {
            this.code = code;
            this.width = width;
        }

        // The depth of a part is settled: a letter that is a part gets no parts any more.
        int addPart(Letter other, int dx, int dy) {
            if (partCount >= PARTS) {
                return NONE;
            }
            parts[partCount] = new Part(other, dx, dy);
            partCount++;
            other.isPart = true;
            depth = Math.max(depth, other.depth + 1);
            return partCount - 1;
        }

        Part partOf(int k) {
            return within(k, 0, partCount - 1) ? parts[k] : null;
        }
    }

    /** A letter within a letter. */
    private static final class Part {
        final Letter letter;
        private final int dx;
        private final int dy;
        private int xx = UNIT;
        private int xy = 0;
        private int yx = 0;
        private int yy = UNIT;

        Part(Letter letter, int dx, int dy) {
            this.letter = letter;
            this.dx = dx;
            this.dy = dy;
        }

        void turnBy(int newXx, int newXy, int newYx, int newYy) {
            xx = newXx;
            xy = newXy;
            yx = newYx;
            yy = newYy;
        }

        long placeX(long x, long y) {
            return rounded(xx * x + xy * y, UNIT) + dx;
        }

        long placeY(long x, long y) {
            return rounded(yx * x + yy * y, UNIT) + dy;
        }
    }

    /** The outlines of a letter: closed ones, and behind them perhaps an open one. */
    private static final class Shape {
        private static final int ON = 0;
        private static final int TWO = 1;
        private static final int THREE = 2;
        private static final int SECOND_THREE = 3;

        final int[] x = new int[POINTS];
        final int[] y = new int[POINTS];
        final int[] kind = new int[POINTS];
        final int[][] dx = new int[MASTERS][POINTS];
        final int[][] dy = new int[MASTERS][POINTS];
        private final int[] ends = new int[OUTLINES];
        int closed;
        boolean open;
        private int points;

        int begin() {
            if (open || closed >= OUTLINES) {
                return NONE;
            }
            open = true;
            return closed;
        }

        int add(int newX, int newY, int newKind) {
            if (!open || points >= POINTS) {
                return NONE;
            }
            x[points] = newX;
            y[points] = newY;
            kind[points] = newKind;
            for (int m = 0; m < MASTERS; m++) {
                // A dropped point may have left its deltas here.
                dx[m][points] = 0;
                dy[m][points] = 0;
            }
            points++;
            return openPoints();
        }

        int finish() {
            int bad = firstBad();
            if (bad != NONE) {
                return 1 + bad;
            }
            if (closed >= OUTLINES) {
                return NO_SUCH;
            }
            ends[closed] = points;
            closed++;
            open = false;
            return 0;
        }

        int removeLast() {
            if (!hasAny()) {
                return NONE;
            }
            if (open) {
                open = false;
            } else {
                closed--;
            }
            points = closedPoints();
            return closed;
        }

        void turn(int o) {
            int low = startOf(o) + 1;
            int high = endOf(o) - 1;
            while (low < high) {
                exchange(low, high);
                low++;
                high--;
            }
        }

        boolean hasAny() {
            return open || closed > 0;
        }

        boolean hasPoint(int k) {
            return within(k, 0, closedPoints() - 1);
        }

        int closedPoints() {
            return startOf(closed);
        }

        int openPoints() {
            return points - closedPoints();
        }

        int startOf(int o) {
            return within(o, 1, OUTLINES) ? ends[o - 1] : 0;
        }

        int endOf(int o) {
            return startOf(o + 1);
        }

        int outlineWith(int k) {
            int o = 0;
            while (o < closed - 1 && k >= endOf(o)) {
                o++;
            }
            return o;
        }

        private int firstBad() {
            int first = closedPoints();
            int state = TWO;
            for (int k = first; k < points; k++) {
                state = stateBehind(state, kind[k]);
                if (state == NONE) {
                    return k - first;
                }
            }
            // Round, point 0 (an ON) comes behind: all but a second THREE is then there.
            boolean lacks = points - first < 2 || state == THREE;
            return lacks ? points - first : NONE;
        }

        // The start asks for an ON, as a TWO does of what comes behind it.
        private static int stateBehind(int state, int kind) {
            if (state == ON) {
                return kind;
            }
            if (state == THREE) {
                return kind == THREE ? SECOND_THREE : NONE;
            }
            return kind == ON ? ON : NONE;
        }

        private void exchange(int a, int b) {
            swap(x, a, b);
            swap(y, a, b);
            swap(kind, a, b);
            for (int m = 0; m < MASTERS; m++) {
                swap(dx[m], a, b);
                swap(dy[m], a, b);
            }
        }

        private static void swap(int[] row, int a, int b) {
            int old = row[a];
            row[a] = row[b];
            row[b] = old;
        }
    }

    /** Polygons point by point, all in one row. */
    private static final class Polygons {
        private static final int MOST = 500;
        private static final int FARTHEST = 100000;

        final int[] x = new int[MOST];
        final int[] y = new int[MOST];
        final int[] number = new int[MOST];
        final int[] next = new int[MOST];
        int count;
        boolean fits;
        private int told;
        private int start;
        private int finished;

        void clear() {
            count = 0;
            fits = true;
            told = 0;
            start = 0;
            finished = 0;
        }

        void add(long newX, long newY) {
            told++;
            if (told > MOST || !isNear(newX) || !isNear(newY)) {
                fits = false;
            }
            if (!fits || isLast(newX, newY)) {
                return;
            }
            x[count] = (int) newX;
            y[count] = (int) newY;
            number[count] = finished;
            next[count] = count + 1;
            count++;
        }

        // A polygon of one is none: the next one then gets its number.
        void finish() {
            if (count <= start) {
                return;
            }
            while (count - start > 1 && isLast(x[start], y[start])) {
                count--;
            }
            if (count - start == 1) {
                count = start;
                return;
            }
            next[count - 1] = start;
            start = count;
            finished++;
        }

        long doubleArea() {
            long sum = 0;
            for (int a = 0; a < count; a++) {
                int b = next[a];
                sum += (long) x[a] * y[b] - (long) y[a] * x[b];
            }
            return sum;
        }

        /** Around the place x / 16, y / 16. */
        int turnsAround(int atX, int atY) {
            int turns = 0;
            for (int a = 0; a < count; a++) {
                int b = next[a];
                long side = (x[b] - x[a]) * (atY - 16L * y[a]) - (atX - 16L * x[a]) * (y[b] - y[a]);
                if (16L * y[a] <= atY && atY < 16L * y[b] && side > 0) {
                    turns++;
                } else if (16L * y[b] <= atY && atY < 16L * y[a] && side < 0) {
                    turns--;
                }
            }
            return turns;
        }

        int crossingPairs() {
            int pairs = 0;
            for (int a = 0; a < count; a++) {
                for (int c = a + 1; c < count; c++) {
                    if (parts(a, next[a], c, next[c]) && parts(c, next[c], a, next[a])) {
                        pairs++;
                    }
                }
            }
            return pairs;
        }

        private boolean parts(int a, int b, int c, int d) {
            long sideOfC = side(a, b, c);
            long sideOfD = side(a, b, d);
            return (sideOfC < 0 && sideOfD > 0) || (sideOfC > 0 && sideOfD < 0);
        }

        private long side(int a, int b, int c) {
            return (long) (x[b] - x[a]) * (y[c] - y[a]) - (long) (x[c] - x[a]) * (y[b] - y[a]);
        }

        private boolean isLast(long otherX, long otherY) {
            return count > start && x[count - 1] == otherX && y[count - 1] == otherY;
        }

        private static boolean isNear(long place) {
            return within(place, -FARTHEST, FARTHEST);
        }
    }

    /** Makes polygons of letters. */
    private static final class Flattener {
        private static final int HALVINGS = 10;
        // Halving a curve of three makes eighths: ten halvings need thirty bits to be exact.
        private static final int BITS = 30;
        private static final int ROW = 4;

        // One row of control points for each level of halving.
        private final long[] x = new long[(HALVINGS + 1) * ROW];
        private final long[] y = new long[(HALVINGS + 1) * ROW];
        private final long[] placedX = new long[POINTS];
        private final long[] placedY = new long[POINTS];
        private final Part[] path = new Part[DEPTH];
        private long limit;
        private int degree;

        /** Whether the letter, which may be null, can be flattened by t. */
        boolean fill(Letter letter, int t, Polygons out) {
            if (letter == null || !within(t, 1, NEARNESS_MOST)) {
                return false;
            }
            limit = (long) t << BITS;
            out.clear();
            addLetter(letter, 0, out);
            return out.fits;
        }

        private void addLetter(Letter letter, int depth, Polygons out) {
            for (int o = 0; o < letter.shape.closed && out.fits; o++) {
                addOutline(letter.shape, o, depth, out);
            }
            if (depth >= DEPTH) {
                return;
            }
            for (int k = 0; k < letter.partCount && out.fits; k++) {
                Part part = letter.parts[k];
                if (part != null) {
                    path[depth] = part;
                    addLetter(part.letter, depth + 1, out);
                }
            }
        }

        private void addOutline(Shape shape, int o, int depth, Polygons out) {
            int start = shape.startOf(o);
            int end = shape.endOf(o);
            for (int k = start; k < end; k++) {
                place(shape, k, depth);
            }
            out.add(placedX[start], placedY[start]);
            int from = start;
            while (from < end && out.fits) {
                degree = from + 1 < end ? shape.kind[from + 1] + 1 : 1;
                for (int i = 0; i <= degree; i++) {
                    int k = from + i < end ? from + i : start;
                    x[i] = placedX[k] << BITS;
                    y[i] = placedY[k] << BITS;
                }
                addPiece(0, out);
                // A piece has a point at least, whatever the kinds are: so this comes to its end.
                from += Math.max(1, degree);
            }
            out.finish();
        }

        // Each letter on the path rounds for itself, the innermost first.
        private void place(Shape shape, int k, int depth) {
            long px = shape.x[k];
            long py = shape.y[k];
            for (int d = depth - 1; d >= 0; d--) {
                Part part = path[d];
                if (part != null) {
                    long oldX = px;
                    px = part.placeX(oldX, py);
                    py = part.placeY(oldX, py);
                }
            }
            placedX[k] = px;
            placedY[k] = py;
        }

        private void addPiece(int level, Polygons out) {
            if (!out.fits) {
                return;
            }
            int row = level * ROW;
            if (level >= HALVINGS || isFlat(row)) {
                out.add(rounded(x[row + degree], 1L << BITS), rounded(y[row + degree], 1L << BITS));
                return;
            }
            firstHalf(x, row);
            firstHalf(y, row);
            addPiece(level + 1, out);
            secondHalf(x, row);
            secondHalf(y, row);
            addPiece(level + 1, out);
        }

        private boolean isFlat(int row) {
            for (int k = row; k + 2 <= row + degree; k++) {
                if (bend(x, k) > limit || bend(y, k) > limit) {
                    return false;
                }
            }
            return true;
        }

        private static long bend(long[] c, int k) {
            return Math.abs(c[k] - 2 * c[k + 1] + c[k + 2]);
        }

        private void firstHalf(long[] c, int row) {
            int half = row + ROW;
            System.arraycopy(c, row, c, half, ROW);
            for (int round = 1; round <= degree; round++) {
                for (int k = half + degree; k >= half + round; k--) {
                    c[k] = (c[k - 1] + c[k]) >> 1;
                }
            }
        }

        private void secondHalf(long[] c, int row) {
            int half = row + ROW;
            System.arraycopy(c, row, c, half, ROW);
            for (int round = 1; round <= degree; round++) {
                for (int k = half; k <= half + degree - round; k++) {
                    c[k] = (c[k] + c[k + 1]) >> 1;
                }
            }
        }
    }

    /** Counts of samples, dot by dot. */
    private static final class Image {
        private static final int LEAST = -16;
        private static final int SIDE = 64;
        private static final int SAMPLES = 8;
        private static final int EM = 1024;
        private static final int NO_EDGE = -1000;
        // Places times s: a dot is an EM then, and samples lie this far from one another.
        private static final int GAP = EM / SAMPLES;

        private final int[] counts = new int[SIDE * SIDE];
        private final int[] marks = new int[SIDE * SAMPLES + 1];
        private int leastMark;
        private int greatestMark;
        int filled;
        private int leastI;
        private int leastJ;
        private int greatestI;
        private int greatestJ;

        static boolean holds(Polygons polygons, int s) {
            for (int k = 0; k < polygons.count; k++) {
                if (!isInside(s * polygons.x[k]) || !isInside(s * polygons.y[k])) {
                    return false;
                }
            }
            return true;
        }

        void draw(Polygons polygons, int s, int rule) {
            Arrays.fill(counts, 0);
            for (int row = 0; row < SIDE * SAMPLES; row++) {
                markRow(polygons, s, row);
                countRow(row / SAMPLES * SIDE, rule);
            }
            measure();
        }

        int countAt(int i, int j) {
            if (!within(i, LEAST, LEAST + SIDE - 1) || !within(j, LEAST, LEAST + SIDE - 1)) {
                return 0;
            }
            return counts[(j - LEAST) * SIDE + i - LEAST];
        }

        int edge(int what) {
            if (filled == 0) {
                return NO_EDGE;
            }
            switch (what) {
                case 0: return leastI;
                case 1: return leastJ;
                case 2: return greatestI;
                case 3: return greatestJ;
                default: return NO_EDGE;
            }
        }

        private static boolean isInside(int scaled) {
            return scaled >= LEAST * EM && scaled < (LEAST + SIDE) * EM;
        }

        // A mark at c is the turn of an edge that just the samples below c lie left of.
        private void markRow(Polygons polygons, int s, int row) {
            leastMark = marks.length;
            greatestMark = 0;
            long at = LEAST * EM + row * GAP + GAP / 2;
            for (int a = 0; a < polygons.count; a++) {
                int b = polygons.next[a];
                boolean aIsBelow = (long) s * polygons.y[a] <= at;
                boolean bIsBelow = (long) s * polygons.y[b] <= at;
                if (aIsBelow && !bIsBelow) {
                    mark(samplesLeft(polygons, a, b, s, at), 1);
                } else if (bIsBelow && !aIsBelow) {
                    mark(samplesLeft(polygons, b, a, s, at), -1);
                }
            }
        }

        private void mark(int place, int turn) {
            marks[place] += turn;
            leastMark = Math.min(leastMark, place);
            greatestMark = Math.max(greatestMark, place);
        }

        // How many samples of the row are truly left of where the edge crosses it.
        private static int samplesLeft(Polygons p, int low, int high, int s, long at) {
            long rise = p.y[high] - p.y[low];
            if (rise <= 0) {
                return 0;
            }
            long crossing = s * p.x[low] * rise + (p.x[high] - p.x[low]) * (at - (long) s * p.y[low]);
            long first = LEAST * EM + GAP / 2;
            long samples = -Math.floorDiv(first * rise - crossing, GAP * rise);
            return (int) Math.max(0, Math.min(SIDE * SAMPLES, samples));
        }

        // Outlines are closed, so left of the least mark all turns have come to 0.
        private void countRow(int dotRow, int rule) {
            int turns = 0;
            for (int place = greatestMark; place >= leastMark && place >= 0; place--) {
                turns += marks[place];
                marks[place] = 0;
                boolean isFilled = rule == 0 ? turns != 0 : (turns & 1) != 0;
                if (isFilled && place > 0) {
                    counts[dotRow + (place - 1) / SAMPLES]++;
                }
            }
        }

        private void measure() {
            filled = 0;
            leastI = LEAST + SIDE;
            leastJ = LEAST + SIDE;
            greatestI = LEAST;
            greatestJ = LEAST;
            for (int k = 0; k < counts.length; k++) {
                if (counts[k] > 0) {
                    filled++;
                    leastI = Math.min(leastI, k % SIDE + LEAST);
                    greatestI = Math.max(greatestI, k % SIDE + LEAST);
                    leastJ = Math.min(leastJ, k / SIDE + LEAST);
                    greatestJ = Math.max(greatestJ, k / SIDE + LEAST);
                }
            }
        }
    }

    /** The acts of a letter. */
    private static final class Program {
        final int[] ops = new int[ACTS];
        final int[] args = new int[ACTS];
        int count;

        int add(int op, int arg) {
            if (count >= ACTS) {
                return NONE;
            }
            ops[count] = op;
            args[count] = arg;
            count++;
            return count;
        }

        int clear() {
            int were = count;
            count = 0;
            return were;
        }
    }

    /** The points of a letter on the grid, along x (axis 0) and y (axis 1). */
    private static final class Fitting {
        static final int MOST = 1000000000;

        private final int[][] first = new int[2][POINTS];
        final int[][] now = new int[2][POINTS];
        final int[][] touched = new int[2][POINTS];
        private final int[] ends = new int[OUTLINES];
        private int outlines;
        private int points;

        void start(Shape shape, int s) {
            points = shape.closedPoints();
            outlines = shape.closed;
            for (int o = 0; o < outlines; o++) {
                ends[o] = shape.endOf(o);
            }
            for (int k = 0; k < points; k++) {
                first[0][k] = (int) rounded(64L * s * shape.x[k], 1024);
                first[1][k] = (int) rounded(64L * s * shape.y[k], 1024);
                for (int axis = 0; axis < 2; axis++) {
                    now[axis][k] = first[axis][k];
                    touched[axis][k] = 0;
                }
            }
        }

        boolean hasPoint(int k) {
            return within(k, 0, points - 1);
        }

        void touch(int axis, int k, int place) {
            now[axis][k] = place;
            touched[axis][k] = 1;
        }

        /** Whether all places that were made can be. */
        boolean fitAll(int axis) {
            boolean fits = true;
            int start = 0;
            for (int o = 0; o < outlines; o++) {
                fits = fitOutline(axis, start, ends[o]) && fits;
                start = ends[o];
            }
            return fits;
        }

        private boolean fitOutline(int axis, int start, int end) {
            int from = start;
            while (from < end && touched[axis][from] == 0) {
                from++;
            }
            boolean fits = true;
            int a = from;
            int b = from;
            // Once round from the first touched point on, so that A is known from the start.
            for (int step = 0; from < end && step < end - start; step++) {
                int k = from + step < end ? from + step : from + step - end + start;
                if (touched[axis][k] != 0) {
                    a = k;
                    b = touchedBehind(axis, k, start, end);
                } else {
                    long place = placeBetween(axis, a, b, first[axis][k]);
                    fits = fits && within(place, -MOST, MOST);
                    now[axis][k] = (int) place;
                }
            }
            return fits;
        }

        // Round to the point itself, if it is the only one.
        private int touchedBehind(int axis, int a, int start, int end) {
            int b = a + 1 < end ? a + 1 : start;
            for (int step = start; step < end && touched[axis][b] == 0; step++) {
                b = b + 1 < end ? b + 1 : start;
            }
            return b;
        }

        // With one alone A is B as well: then its own move is what all the others get.
        private long placeBetween(int axis, int a, int b, long o) {
            long oa = first[axis][a];
            long ob = first[axis][b];
            long na = now[axis][a];
            long nb = now[axis][b];
            long shiftOfLesser = oa <= ob ? na - oa : nb - ob;
            long shiftOfGreater = oa >= ob ? na - oa : nb - ob;
            if (o <= Math.min(oa, ob)) {
                return o + shiftOfLesser;
            }
            if (o >= Math.max(oa, ob)) {
                return o + shiftOfGreater;
            }
            return na + rounded((o - oa) * (nb - na), ob - oa);
        }
    }

    /** Does the acts of a program on points. */
    private static final class Runner {
        private static final int STACK = 32;
        private static final int STORE = 16;
        private static final int CALLS = 8;
        private static final int STEPS = 1000;
        private static final int TRUE = 64;

        private static final int FAULT_STACK = 1;
        private static final int FAULT_POINT = 2;
        private static final int FAULT_ACT = 3;
        private static final int FAULT_CALLS = 4;
        private static final int FAULT_OVER = 5;
        private static final int FAULT_STEPS = 6;
        private static final int FAULT_STORE = 7;
        private static final int FAULT_NUMBER = 8;

        private static final int[] TAKES = {
            0, 1, 1, 2, 2, 2, 2, 2, 1, 1, 1, 1, 2, 2, 2, 2,
            0, 1, 0, 0, 1, 0, 0, 1, 0, 1, 0, 0, 0, 0, 0
        };
        private static final int[] GIVES = {
            1, 2, 0, 2, 1, 1, 1, 1, 1, 1, 1, 1, 1, 1, 1, 1,
            0, 0, 0, 0, 0, 1, 1, 0, 1, 0, 0, 0, 0, 0, 0
        };

        private final int[] stack = new int[STACK];
        private final int[] store = new int[STORE];
        private final int[] calls = new int[CALLS];
        private int height;
        private int openCalls;
        private int next;

        int perform(Program program, Fitting points) {
            Arrays.fill(store, 0);
            height = 0;
            openCalls = 0;
            next = 0;
            for (int done = 0; done < STEPS; done++) {
                if (!within(next, 0, program.count - 1)) {
                    return 0;
                }
                int fault = step(program, points);
                if (fault != 0) {
                    return fault;
                }
            }
            return next < program.count ? FAULT_STEPS : 0;
        }

        private int step(Program program, Fitting points) {
            int op = program.ops[next];
            int arg = program.args[next];
            int fault = faultAhead(op, arg, program.count, points);
            if (fault != 0) {
                return fault;
            }
            next++;
            if (op <= 3 || op == 20 || op == 21) {
                carry(op, arg);
                return 0;
            }
            if (op <= 15) {
                return TAKES[op] == 1 ? pushNumber(ofOne(op, pop())) : reckonTwo(op);
            }
            if (op <= 19 || op == LAST_OP) {
                go(op, arg, program.count);
                return 0;
            }
            if (op <= 27) {
                usePoint(op, arg, points);
                return 0;
            }
            return points.fitAll(op - 28) ? 0 : FAULT_NUMBER;
        }

        // In the order of the faults' numbers: the least is the one that is told.
        private int faultAhead(int op, int arg, int acts, Fitting points) {
            if (!within(op, 0, LAST_OP)) {
                return FAULT_ACT;
            }
            if (height < TAKES[op] || height - TAKES[op] + GIVES[op] > STACK) {
                return FAULT_STACK;
            }
            if (within(op, 22, 27) && !points.hasPoint(arg)) {
                return FAULT_POINT;
            }
            if (within(op, 16, 18) && !within(arg, 0, acts)) {
                return FAULT_ACT;
            }
            if (op == 18 && openCalls >= CALLS) {
                return FAULT_CALLS;
            }
            if (op == 7 && stack[height - 1] == 0) {
                return FAULT_OVER;
            }
            if ((op == 20 || op == 21) && !within(arg, 0, STORE - 1)) {
                return FAULT_STORE;
            }
            return 0;
        }

        private void carry(int op, int arg) {
            switch (op) {
                case 0: push(arg); break;
                case 1: push(stack[height - 1]); break;
                case 2: pop(); break;
                case 3: changeTwo(); break;
                case 20: store[arg] = pop(); break;
                default: push(store[arg]); break;
            }
        }

        private void changeTwo() {
            int top = pop();
            int below = pop();
            push(top);
            push(below);
        }

        private static long ofOne(int op, long a) {
            switch (op) {
                case 8: return -a;
                case 9: return Math.abs(a);
                case 10: return toGrid(a);
                default: return 64 * Math.floorDiv(a, 64L);
            }
        }

        private int reckonTwo(int op) {
            long top = pop();
            long below = pop();
            return pushNumber(ofTwo(op, below, top));
        }

        private static long ofTwo(int op, long a, long b) {
            switch (op) {
                case 4: return a + b;
                case 5: return a - b;
                case 6: return rounded(a * b, 64);
                case 7: return rounded(64 * a, b);
                case 12: return Math.min(a, b);
                case 13: return Math.max(a, b);
                case 14: return a < b ? TRUE : 0;
                default: return a == b ? TRUE : 0;
            }
        }

        private void go(int op, int arg, int acts) {
            if (op == 16 || (op == 17 && pop() == 0)) {
                next = arg;
            } else if (op == 18) {
                calls[openCalls] = next;
                openCalls++;
                next = arg;
            } else if (op == 19 && openCalls > 0) {
                openCalls--;
                next = calls[openCalls];
            } else if (op == 19 || op == LAST_OP) {
                next = acts;
            }
        }

        private void usePoint(int op, int k, Fitting points) {
            switch (op) {
                case 22: push(points.now[0][k]); break;
                case 23: points.touch(0, k, pop()); break;
                case 24: push(points.now[1][k]); break;
                case 25: points.touch(1, k, pop()); break;
                case 26: points.touch(0, k, (int) toGrid(points.now[0][k])); break;
                default: points.touch(1, k, (int) toGrid(points.now[1][k])); break;
            }
        }

        private int pushNumber(long value) {
            if (!within(value, -Fitting.MOST, Fitting.MOST)) {
                return FAULT_NUMBER;
            }
            push((int) value);
            return 0;
        }

        private void push(int value) {
            if (height < STACK) {
                stack[height] = value;
                height++;
            }
        }

        private int pop() {
            if (height <= 0) {
                return 0;
            }
            height--;
            return stack[height];
        }

        // The greatest number is a multiple of 64, so this never leaves the numbers.
        private static long toGrid(long a) {
            return 64 * rounded(a, 64);
        }
    }

    /** What is told of classes and of single letters. */
    private static final class Kerning {
        static final int NOTHING = 10000;

        final int[][] ofClasses = new int[CLASSES][CLASSES];
        final int[][] ofLetters = new int[LETTERS][LETTERS];

        Kerning() {
            for (int l = 0; l < LETTERS; l++) {
                Arrays.fill(ofLetters[l], NOTHING);
            }
        }

        int between(Letter[] letters, int l, int m) {
            if (!within(l, 0, letters.length - 1) || !within(m, 0, letters.length - 1)) {
                return 0;
            }
            Letter ahead = letters[l];
            Letter behind = letters[m];
            if (ahead == null || behind == null) {
                return 0;
            }
            int told = ofLetters[l][m];
            return told != NOTHING ? told : ofClasses[ahead.rightClass][behind.leftClass];
        }
    }

    /** Rules, the signs of the line, and the letters of the latest line that was set. */
    private static final class Line {
        private static final int SIGNS = 60;
        private static final int RULES = 40;

        private final int[][] rules = new int[3][RULES];
        private final int[] results = new int[RULES];
        private int ruleCount;
        private final int[] signs = new int[SIGNS];
        private int signCount;
        final int[] placedLetter = new int[SIGNS];
        final int[] placedAt = new int[SIGNS];
        final int[] placedSign = new int[SIGNS];
        int placedCount;
        int end;

        int addRule(int a, int b, int c, int to) {
            if (ruleCount >= RULES) {
                return NONE;
            }
            rules[0][ruleCount] = a;
            rules[1][ruleCount] = b;
            rules[2][ruleCount] = c;
            results[ruleCount] = to;
            ruleCount++;
            return ruleCount;
        }

        int addSign(int code) {
            if (signCount >= SIGNS) {
                return NONE;
            }
            signs[signCount] = code;
            signCount++;
            return signCount;
        }

        void compose(Letter[] letters, int letterCount, Kerning kernings) {
            placedCount = 0;
            end = 0;
            int sign = 0;
            while (sign < signCount) {
                int rule = ruleAt(sign);
                int code = rule == NONE ? signs[sign] : results[rule];
                int l = indexOfCode(letters, letterCount, code);
                if (l == NONE) {
                    l = indexOfCode(letters, letterCount, 0);
                }
                if (l != NONE) {
                    place(letters, l, sign, kernings);
                }
                sign += rule == NONE ? 1 : sizeOf(rule);
            }
            signCount = 0;
        }

        private void place(Letter[] letters, int l, int sign, Kerning kernings) {
            if (placedCount >= SIGNS || letters[l] == null) {
                return;
            }
            int at = end;
            if (placedCount > 0) {
                at += kernings.between(letters, placedLetter[placedCount - 1], l);
            }
            placedLetter[placedCount] = l;
            placedAt[placedCount] = at;
            placedSign[placedCount] = sign;
            placedCount++;
            end = at + letters[l].width;
        }

        private int ruleAt(int sign) {
            int best = NONE;
            for (int r = 0; r < ruleCount; r++) {
                boolean isLonger = best == NONE || sizeOf(r) > sizeOf(best);
                if (isLonger && fitsAt(r, sign)) {
                    best = r;
                }
            }
            return best;
        }

        private int sizeOf(int rule) {
            return rules[2][rule] == NONE ? 2 : 3;
        }

        private boolean fitsAt(int rule, int sign) {
            int size = sizeOf(rule);
            if (sign + size > signCount) {
                return false;
            }
            for (int k = 0; k < size; k++) {
                if (rules[k][rule] != signs[sign + k]) {
                    return false;
                }
            }
            return true;
        }
    }
}
