import java.util.ArrayList;
import java.util.List;
import java.util.Random;

/** Asks the class and a plain second reading of the document the same things (14 to 21, 24, 25, 35 to 37). */
public final class OracleTest {
    private static final Random RANDOM = new Random(20261118);

    public static void main(String[] args) {
        for (int round = 0; round < 300 && !Check.failed(); round++) {
            shapes(round);
        }
        for (int round = 0; round < 3000 && !Check.failed(); round++) {
            programs();
        }
        for (int round = 0; round < 2000 && !Check.failed(); round++) {
            lines();
        }
        Check.end();
    }

    private static int within(int least, int most) {
        return least + RANDOM.nextInt(most - least + 1);
    }

    private static void addOutline(LetterFoundry f, int l, Plain.Glyph glyph, int size, int grain) {
        List<long[]> outline = new ArrayList<>();
        int pieces = within(2, 5);
        for (int p = 0; p < pieces; p++) {
            int curve = within(0, 2);
            for (int k = 0; k <= curve; k++) {
                long x = within(-size / 2, size) / grain * grain;
                long y = within(-size / 2, size) / grain * grain;
                outline.add(new long[] {x, y, k == 0 ? 0 : curve});
            }
        }
        f.outline(l);
        for (long[] p : outline) {
            f.point(l, (int) p[0], (int) p[1], (int) p[2]);
        }
        Check.due("close", f.close(l), 0);
        glyph.outlines.add(outline);
    }

    private static void addPart(LetterFoundry f, int l, Plain.Glyph glyph, int of, Plain.Glyph other, int wide) {
        int[] m = new int[6];
        for (int k = 0; k < 4; k++) {
            m[k] = wide == 2 ? within(-32768, 32767) : within(-16384, 16384);
        }
        for (int k = 4; k < 6; k++) {
            m[k] = wide == 2 ? within(-32000, 32000) : within(-200, 200);
        }
        int part = f.part(l, of, m[4], m[5]);
        Check.due("matrix", f.matrix(l, part, m[0], m[1], m[2], m[3]), true);
        glyph.parts.add(other);
        glyph.matrices.add(m);
    }

    private static void shapes(int round) {
        LetterFoundry f = new LetterFoundry();
        int letters = within(2, 6);
        int size = RANDOM.nextInt(4) == 0 ? 32000 : within(1, 1500);
        int grain = RANDOM.nextInt(3) == 0 ? Math.max(1, size / 8) : 1;
        Plain.Glyph[] glyphs = new Plain.Glyph[letters];
        for (int l = 0; l < letters; l++) {
            glyphs[l] = new Plain.Glyph();
            f.letter(l, 0);
            if (l < 2) {
                for (int o = within(1, 3); o > 0; o--) {
                    addOutline(f, l, glyphs[l], size, grain);
                }
            } else {
                int wide = size == 32000 ? RANDOM.nextInt(3) : RANDOM.nextInt(2);
                addPart(f, l, glyphs[l], l - 1, glyphs[l - 1], wide);
                for (int p = within(0, 1); p > 0 && l < 5; p--) {
                    int of = RANDOM.nextInt(l);
                    addPart(f, l, glyphs[l], of, glyphs[of], wide);
                }
            }
        }
        List<List<long[]>> latest = new ArrayList<>();
        for (int l = 0; l < letters; l++) {
            int t = within(1, RANDOM.nextBoolean() ? 256 : 20);
            List<List<long[]>> polygons = Plain.flatten(glyphs[l], t);
            int answer = f.flatten(l, t);
            Check.due("refused " + round, answer == -1, polygons == null);
            latest = polygons == null ? latest : polygons;
            comparePolygons(f, latest);
            latest = compareImage(f, l, t, polygons, latest);
        }
    }

    private static void comparePolygons(LetterFoundry f, List<List<long[]>> polygons) {
        int k = 0;
        long area = 0;
        for (int p = 0; p < polygons.size(); p++) {
            for (long[] point : polygons.get(p)) {
                Check.due("polygon", f.flat(k, 0), p);
                Check.due("x", f.flat(k, 1), point[0]);
                Check.due("y", f.flat(k, 2), point[1]);
                k++;
            }
        }
        Check.due("no more", f.flat(k, 0), -1000000);
        List<long[]> edges = Plain.edges(polygons);
        for (long[] e : edges) {
            area += e[0] * e[3] - e[1] * e[2];
        }
        Check.due("area", f.area(), area);
        Check.due("crossings", f.crossings(), Plain.crossings(edges));
        for (int n = 0; n < 30 && !edges.isEmpty(); n++) {
            long[] e = edges.get(RANDOM.nextInt(edges.size()));
            int x = (int) (16 * e[0]) + within(-n * n, n * n);
            int y = (int) (16 * e[1]) + within(-n * n, n * n);
            Check.due("winding", f.winding(x, y), Plain.winding(edges, x, y, 16));
        }
    }

    private static List<List<long[]>> compareImage(
            LetterFoundry f, int l, int t, List<List<long[]>> polygons, List<List<long[]>> latest) {
        int s = within(4, 32);
        int rule = RANDOM.nextInt(2);
        int answer = f.image(l, t, s, rule);
        boolean holds = polygons != null && Plain.hasImage(polygons, s);
        Check.due("no image", answer == -1, !holds);
        if (!holds) {
            return latest;
        }
        List<long[]> edges = Plain.edges(polygons);
        int filled = 0;
        int[] box = {-1000, -1000, -1000, -1000};
        for (int i = -16; i < 48; i++) {
            for (int j = -16; j < 48; j++) {
                int count = Plain.mayBeFilled(edges, i, j, s) ? Plain.count(edges, i, j, s, rule) : 0;
                Check.due("dot", f.dot(i, j), count);
                if (count > 0) {
                    box[0] = filled == 0 ? i : Math.min(box[0], i);
                    box[1] = filled == 0 ? j : Math.min(box[1], j);
                    box[2] = filled == 0 ? i : Math.max(box[2], i);
                    box[3] = filled == 0 ? j : Math.max(box[3], j);
                    filled++;
                }
            }
        }
        Check.due("filled", answer, filled);
        for (int what = 0; what < 4; what++) {
            Check.due("box", f.box(what), box[what]);
        }
        return polygons;
    }

    private static void programs() {
        LetterFoundry f = new LetterFoundry();
        Plain.Glyph glyph = new Plain.Glyph();
        f.letter(1, 0);
        int size = RANDOM.nextInt(5) == 0 ? 32000 : 100;
        int points = 0;
        for (int o = within(1, 3); o > 0; o--) {
            addOutline(f, 0, glyph, size, RANDOM.nextBoolean() ? 1 : 20);
        }
        for (List<long[]> outline : glyph.outlines) {
            points += outline.size();
        }
        List<int[]> acts = new ArrayList<>();
        int length = within(5, 60);
        for (int k = 0; k < length; k++) {
            addAct(acts, points, length);
        }
        for (int[] act : acts) {
            f.act(0, act[0], act[1]);
        }
        int s = within(4, 32);
        PlainRun run = new PlainRun(glyph.outlines, s);
        int fault = run.run(acts.subList(0, Math.min(100, acts.size())));
        Check.due("run", f.run(0, s), fault);
        for (int k = 0; k < points && fault == 0; k++) {
            for (int axis = 0; axis < 2; axis++) {
                Check.due("place", f.fitted(k, axis), run.now[axis][k]);
                Check.due("touched", f.fitted(k, axis + 2), run.touched[axis][k] ? 1 : 0);
            }
        }
        Check.due("fitted points", f.fitted(fault == 0 ? points : 0, 0), -2000000000);
    }

    // Mostly acts that can be done, so that programs come far before they end.
    private static void addAct(List<int[]> acts, int points, int length) {
        int op = RANDOM.nextInt(31);
        int wild = RANDOM.nextInt(150);
        if (op == 30 || op == 19 || (op >= 1 && op <= 15)) {
            if (wild > 3) {
                acts.add(new int[] {0, within(-200, 200)});
                acts.add(new int[] {0, wild < 9 ? within(-100000, 100000) : within(-200, 200)});
            }
            op = op == 30 && wild > 20 ? 4 : op;
        }
        int arg = within(0, 15);
        if (op >= 22 && op <= 27) {
            arg = within(wild == 0 ? -2 : 0, wild == 1 ? points : points - 1);
        }
        if (op >= 16 && op <= 18) {
            arg = wild < 40 ? within(-1, length) : Math.min(100, acts.size() + within(1, 4));
        }
        if (op == 17 || op == 20 || op == 23 || op == 25) {
            acts.add(new int[] {0, within(-100, 100)});
        }
        acts.add(new int[] {op, arg});
        if (op >= 1 && op <= 15 && op != 2 && wild > 3 && RANDOM.nextBoolean()) {
            // what it leaves comes to be a place, so that it is seen
            acts.add(new int[] {RANDOM.nextBoolean() ? 23 : 25, within(0, points - 1)});
        }
    }

    private static void lines() {
        LetterFoundry f = new LetterFoundry();
        int letters = within(1, 6);
        int[] widths = new int[letters];
        for (int l = 0; l < letters; l++) {
            widths[l] = within(0, 1000);
            f.letter(l + (letters % 2), widths[l]);
            f.classOf(l, 0, within(0, 3));
            f.classOf(l, 1, within(0, 3));
        }
        for (int k = within(0, 12); k > 0; k--) {
            f.kern(within(0, 3), within(0, 3), within(-300, 300));
            f.exception(within(0, letters), within(0, letters), k % 3 == 0 ? 10000 : within(-300, 300));
        }
        List<int[]> rules = new ArrayList<>();
        for (int k = within(0, 10); k > 0; k--) {
            int[] rule = {within(0, 4), within(0, 4), within(-1, 4), within(0, 9)};
            rules.add(rule);
            f.join(rule[0], rule[1], rule[2], rule[3]);
        }
        List<Integer> signs = new ArrayList<>();
        for (int k = within(0, 60); k > 0; k--) {
            signs.add(within(0, 5));
            f.sign(signs.get(signs.size() - 1));
        }
        compareLine(f, rules, signs, widths);
    }

    private static void compareLine(LetterFoundry f, List<int[]> rules, List<Integer> signs, int[] widths) {
        int count = f.set();
        int k = 0;
        int end = 0;
        int ahead = -1;
        int sign = 0;
        while (sign < signs.size()) {
            int used = 1;
            int code = signs.get(sign);
            for (int most = 3; most >= 2 && used == 1; most--) {
                for (int[] rule : rules) {
                    if ((rule[2] < 0 ? 2 : 3) == most && used == 1 && isAt(rule, most, signs, sign)) {
                        used = most;
                        code = rule[3];
                    }
                }
            }
            int l = f.find(code) >= 0 ? f.find(code) : f.find(0);
            if (l >= 0) {
                int at = ahead < 0 ? 0 : end + f.kerning(ahead, l);
                Check.due("letter", f.placed(k, 0), l);
                Check.due("at", f.placed(k, 1), at);
                Check.due("sign", f.placed(k, 2), sign);
                end = at + widths[l];
                ahead = l;
                k++;
            }
            sign += used;
        }
        Check.due("letters", count, k);
        Check.due("length", f.length(), end);
    }

    private static boolean isAt(int[] rule, int size, List<Integer> signs, int sign) {
        for (int k = 0; k < size; k++) {
            if (sign + k >= signs.size() || signs.get(sign + k) != rule[k]) {
                return false;
            }
        }
        return true;
    }
}
