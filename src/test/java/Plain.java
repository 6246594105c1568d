import java.math.BigDecimal;
import java.math.RoundingMode;
import java.util.ArrayList;
import java.util.List;

/** A second reading of the document's terms II to V, as plain and as slow as its words. */
final class Plain {
    private static final BigDecimal TWO = new BigDecimal(2);

    private Plain() {
    }

    static long rounded(BigDecimal a, long b) {
        return a.divide(new BigDecimal(b), 0, RoundingMode.HALF_EVEN).longValueExact();
    }

    static long rounded(long a, long b) {
        return rounded(new BigDecimal(a), b);
    }

    /** A letter of outlines (lists of x, y, kind), or of parts with matrices. */
    static final class Glyph {
        final List<List<long[]>> outlines = new ArrayList<>();
        final List<Glyph> parts = new ArrayList<>();
        final List<int[]> matrices = new ArrayList<>();

        List<List<long[]>> all() {
            if (parts.isEmpty()) {
                return outlines;
            }
            List<List<long[]>> all = new ArrayList<>();
            for (int k = 0; k < parts.size(); k++) {
                int[] m = matrices.get(k);
                for (List<long[]> outline : parts.get(k).all()) {
                    List<long[]> placed = new ArrayList<>();
                    for (long[] p : outline) {
                        long x = rounded(m[0] * p[0] + m[1] * p[1], 16384) + m[4];
                        long y = rounded(m[2] * p[0] + m[3] * p[1], 16384) + m[5];
                        placed.add(new long[] {x, y, p[2]});
                    }
                    all.add(placed);
                }
            }
            return all;
        }
    }

    /** The polygons, or null. */
    static List<List<long[]>> flatten(Glyph glyph, int t) {
        List<List<long[]>> polygons = new ArrayList<>();
        int told = 0;
        for (List<long[]> outline : glyph.all()) {
            List<long[]> polygon = polygonOf(outline, t);
            told += polygon.size();
            for (long[] p : polygon) {
                if (Math.abs(p[0]) > 100000 || Math.abs(p[1]) > 100000) {
                    return null;
                }
            }
            if (told > 500) {
                return null;
            }
            polygon = leaveOut(polygon);
            if (polygon.size() > 1) {
                polygons.add(polygon);
            }
        }
        return polygons;
    }

    private static List<long[]> leaveOut(List<long[]> polygon) {
        List<long[]> left = new ArrayList<>();
        for (long[] p : polygon) {
            if (left.isEmpty() || !same(left.get(left.size() - 1), p)) {
                left.add(p);
            }
        }
        while (left.size() > 1 && same(left.get(left.size() - 1), left.get(0))) {
            left.remove(left.size() - 1);
        }
        return left;
    }

    private static boolean same(long[] p, long[] q) {
        return p[0] == q[0] && p[1] == q[1];
    }

    private static List<long[]> polygonOf(List<long[]> outline, int t) {
        List<long[]> out = new ArrayList<>();
        out.add(outline.get(0));
        List<long[]> round = new ArrayList<>(outline);
        round.add(outline.get(0));
        int from = 0;
        for (int k = 1; k < round.size(); k++) {
            boolean isLast = k == round.size() - 1;
            if (isLast || round.get(k)[2] == 0) {
                List<BigDecimal[]> curve = new ArrayList<>();
                for (long[] p : round.subList(from, k + 1)) {
                    curve.add(new BigDecimal[] {new BigDecimal(p[0]), new BigDecimal(p[1])});
                }
                addCurve(curve, 0, t, out);
                from = k;
            }
        }
        return out;
    }

    private static void addCurve(List<BigDecimal[]> curve, int halvings, int t, List<long[]> out) {
        BigDecimal[] end = curve.get(curve.size() - 1);
        if (curve.size() == 2 || halvings == 10 || isFlat(curve, t) || out.size() > 600) {
            out.add(new long[] {rounded(end[0], 1), rounded(end[1], 1)});
            return;
        }
        List<BigDecimal[]> first = new ArrayList<>();
        List<BigDecimal[]> second = new ArrayList<>();
        List<BigDecimal[]> level = curve;
        while (!level.isEmpty()) {
            first.add(level.get(0));
            second.add(0, level.get(level.size() - 1));
            List<BigDecimal[]> middles = new ArrayList<>();
            for (int k = 0; k + 1 < level.size(); k++) {
                middles.add(middle(level.get(k), level.get(k + 1)));
            }
            level = middles;
        }
        addCurve(first, halvings + 1, t, out);
        addCurve(second, halvings + 1, t, out);
    }

    private static BigDecimal[] middle(BigDecimal[] p, BigDecimal[] q) {
        return new BigDecimal[] {p[0].add(q[0]).divide(TWO), p[1].add(q[1]).divide(TWO)};
    }

    private static boolean isFlat(List<BigDecimal[]> curve, int t) {
        for (int k = 0; k + 2 < curve.size(); k++) {
            for (int axis = 0; axis < 2; axis++) {
                BigDecimal bend = curve.get(k)[axis].subtract(curve.get(k + 1)[axis].multiply(TWO))
                    .add(curve.get(k + 2)[axis]);
                if (bend.abs().compareTo(new BigDecimal(t)) > 0) {
                    return false;
                }
            }
        }
        return true;
    }

    /** The edges ax, ay, bx, by of all polygons. */
    static List<long[]> edges(List<List<long[]>> polygons) {
        List<long[]> edges = new ArrayList<>();
        for (List<long[]> polygon : polygons) {
            for (int k = 0; k < polygon.size(); k++) {
                long[] a = polygon.get(k);
                long[] b = polygon.get((k + 1) % polygon.size());
                edges.add(new long[] {a[0], a[1], b[0], b[1]});
            }
        }
        return edges;
    }

    /** At the place x / under, y / under. */
    static int winding(List<long[]> edges, long x, long y, long under) {
        int sum = 0;
        for (long[] e : edges) {
            long side = (e[2] - e[0]) * (y - under * e[1]) - (x - under * e[0]) * (e[3] - e[1]);
            if (under * e[1] <= y && y < under * e[3] && side > 0) {
                sum++;
            }
            if (under * e[3] <= y && y < under * e[1] && side < 0) {
                sum--;
            }
        }
        return sum;
    }

    static int count(List<long[]> edges, int i, int j, int s, int rule) {
        int filled = 0;
        for (int a = 0; a < 8; a++) {
            for (int b = 0; b < 8; b++) {
                int w = winding(edges, (16L * i + 2 * a + 1) * 64, (16L * j + 2 * b + 1) * 64, s);
                filled += (rule == 0 ? w != 0 : w % 2 != 0) ? 1 : 0;
            }
        }
        return filled;
    }

    /** "There is no image, if for a point x, y of the polygons .." */
    static boolean hasImage(List<List<long[]>> polygons, int s) {
        for (List<long[]> polygon : polygons) {
            for (long[] p : polygon) {
                if (s * p[0] < -16384 || s * p[0] >= 49152 || s * p[1] < -16384 || s * p[1] >= 49152) {
                    return false;
                }
            }
        }
        return true;
    }

    // Dots beyond the polygons' own rectangle are spared the counting, to end in good time.
    static boolean mayBeFilled(List<long[]> edges, int i, int j, int s) {
        long[] least = {Long.MAX_VALUE, Long.MAX_VALUE};
        long[] most = {Long.MIN_VALUE, Long.MIN_VALUE};
        for (long[] e : edges) {
            for (int axis = 0; axis < 2; axis++) {
                least[axis] = Math.min(least[axis], s * e[axis]);
                most[axis] = Math.max(most[axis], s * e[axis]);
            }
        }
        return 1024L * (i + 1) >= least[0] && 1024L * i <= most[0]
            && 1024L * (j + 1) >= least[1] && 1024L * j <= most[1];
    }

    static int crossings(List<long[]> edges) {
        int pairs = 0;
        for (int p = 0; p < edges.size(); p++) {
            for (int q = 0; q < p; q++) {
                long[] e = edges.get(p);
                long[] f = edges.get(q);
                if (sides(e, f) < 0 && sides(f, e) < 0) {
                    pairs++;
                }
            }
        }
        return pairs;
    }

    private static int sides(long[] e, long[] f) {
        return side(e, f[0], f[1]) * side(e, f[2], f[3]);
    }

    private static int side(long[] e, long x, long y) {
        return Long.signum((e[2] - e[0]) * (y - e[1]) - (e[3] - e[1]) * (x - e[0]));
    }
}
