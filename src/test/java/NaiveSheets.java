import java.util.ArrayList;
import java.util.Arrays;
import java.util.HashMap;
import java.util.HashSet;
import java.util.List;
import java.util.Map;
import java.util.Set;
import java.util.TreeSet;

/**
 * The document once more, by other ways than the program's: classes by walking a graph of corners and
 * edge ends, holes by the divisors of minors, least sheets by smallest dependent sets of columns, parts
 * by where the cuts meet the edges. Slow; only for comparison.
 */
final class NaiveSheets {
    static final int NONE = -1, BAD = -2, NOT = -3, FULL = -4, LOW = Integer.MIN_VALUE;

    private int n = 0;
    private final int[][][] to = new int[3][4][];      // null: open; else {q, images of the corners 0 .. 3}
    private int[] sheet = new int[0];
    private static final Map<String, List<int[]>> KNOWN = new HashMap<>();

    int piece() {
        if (n == 3) return FULL;
        n++;
        sheet = new int[7 * n];
        return n - 1;
    }

    int glue(int p, int f, int q, int g, int map) {
        if (!side(p, f) || !side(q, g) || (p == q && f == g) || map < 0 || map > 63) return BAD;
        int[] image = {map % 4, map / 4 % 4, map / 16};
        Set<Integer> seen = new HashSet<>();
        for (int x : image) seen.add(x);
        if (seen.size() != 3 || seen.contains(g)) return BAD;
        if (to[p][f] != null || to[q][g] != null) return NOT;
        int[] there = new int[5];
        int[] back = new int[5];
        there[0] = q;
        back[0] = p;
        there[1 + f] = g;
        back[1 + g] = f;
        int next = 0;
        for (int c = 0; c < 4; c++) {
            if (c == f) continue;
            there[1 + c] = image[next];
            back[1 + image[next]] = c;
            next++;
        }
        to[p][f] = there;
        to[q][g] = back;
        return 1;
    }

    int open(int p, int f) {
        if (!side(p, f)) return BAD;
        if (to[p][f] == null) return NOT;
        int[] there = to[p][f];
        to[p][f] = null;
        to[there[0]][there[1 + f]] = null;
        return 1;
    }

    int clear() {
        int was = n;
        n = 0;
        sheet = new int[0];
        for (int[][] x : to) Arrays.fill(x, null);
        return was;
    }

    int across(int p, int f, int what) {
        if (!side(p, f) || what < 0 || what > 1) return BAD;
        if (to[p][f] == null) return NONE;
        return what == 0 ? to[p][f][0] : to[p][f][1 + f];
    }

    int classOf(int way, int p, int c) {
        if (p < 0 || p >= n || c < 0) return BAD;
        if (way == 0) return c > 3 ? BAD : corners()[4 * p + c];
        if (way == 1) return c > 5 ? BAD : edges()[6 * p + c];
        return BAD;
    }

    int bent(int k) {
        int[] edge = edges();
        if (k < 0 || k > max(edge)) return BAD;
        int[] end = ends();
        for (int p = 0; p < n; p++)
            for (int e = 0; e < 6; e++)
                if (edge[6 * p + e] == k && end[16 * p + 4 * LO[e] + HI[e]] == end[16 * p + 4 * HI[e] + LO[e]]) return 1;
        return 0;
    }

    int link(int k) {
        int[] corner = corners();
        if (k < 0 || k > max(corner)) return LOW;
        int[] end = ends();
        Set<Integer> endsThere = new HashSet<>();
        Set<List<Integer>> sidesThere = new HashSet<>();
        int cornersThere = 0;
        for (int p = 0; p < n; p++)
            for (int c = 0; c < 4; c++) {
                if (corner[4 * p + c] != k) continue;
                cornersThere++;
                for (int x = 0; x < 4; x++) {
                    if (x == c) continue;
                    endsThere.add(end[16 * p + 4 * c + x]);
                    int[] t = to[p][x];
                    int here = 16 * p + 4 * x + c;
                    int there = t == null ? here : 16 * t[0] + 4 * t[1 + x] + t[1 + c];
                    sidesThere.add(List.of(Math.min(here, there), Math.max(here, there)));
                }
            }
        return endsThere.size() - sidesThere.size() + cornersThere;
    }

    int count(int what) {
        int open = 0;
        for (int p = 0; p < n; p++) for (int f = 0; f < 4; f++) if (to[p][f] == null) open++;
        int sides = open + (4 * n - open) / 2;
        int cornerClasses = max(corners()) + 1;
        int edgeClasses = max(edges()) + 1;
        switch (what) {
            case 0: return n;
            case 1: return cornerClasses;
            case 2: return edgeClasses;
            case 3: return sides;
            case 4: return open;
            case 5: return cornerClasses - edgeClasses + sides - n;
            case 6: return whole(open) ? 1 : 0;
            case 7: return even() ? 1 : 0;
            case 8: return sets();
            default: return LOW;
        }
    }

    int holes(int i) {
        if (i < 0) return BAD;
        for (int k = 0; k <= max(edges()); k++) if (bent(k) == 1) return NOT;
        List<long[]> loops = loops();
        int pairs = (4 * n - count(4)) / 2;
        List<Long> divisors = new ArrayList<>();
        long before = 1;
        for (int size = 1; size <= pairs; size++) {
            long d = minors(loops, pairs, size);
            if (d == 0) break;
            divisors.add(d / before);
            before = d;
        }
        if (i == 0) return pairs - n + sets() - divisors.size();
        int seen = 0;
        for (long d : divisors) if (d > 1 && ++seen == i) return (int) d;
        return NONE;
    }

    int least() {
        return leastRows().size();
    }

    int number(int k, int i) {
        List<int[]> rows = leastRows();
        if (k < 0 || k >= rows.size() || i < 0 || i >= 7 * n) return BAD;
        return rows.get(k)[i];
    }

    int put(int i, int v) {
        if (i < 0 || i >= 7 * n || v < 0 || v > 1000) return BAD;
        int was = sheet[i];
        sheet[i] = v;
        return was;
    }

    int add(int k, int times) {
        List<int[]> rows = leastRows();
        if (k < 0 || k >= rows.size() || times < 0 || times > 100) return BAD;
        int[] sum = sheet.clone();
        for (int i = 0; i < sum.length; i++) {
            sum[i] += times * rows.get(k)[i];
            if (sum[i] > 1000) return FULL;
        }
        sheet = sum;
        return 1;
    }

    int drop() {
        int was = 0;
        for (int i = 0; i < sheet.length; i++) {
            if (sheet[i] != 0) was++;
            sheet[i] = 0;
        }
        return was;
    }

    int legal() {
        for (int p = 0; p < n; p++)
            for (int f = 0; f < 4; f++)
                for (int c = 0; c < 4; c++) {
                    int[] t = to[p][f];
                    if (t == null || c == f) continue;
                    if (arcs(p, f, c) != arcs(t[0], t[1 + f], t[1 + c])) return 1;
                }
        for (int p = 0; p < n; p++) {
            long kinds = Arrays.stream(sheet, 7 * p + 4, 7 * p + 7).filter(v -> v > 0).count();
            if (kinds > 1) return 2;
        }
        return 0;
    }

    int euler() {
        if (legal() != 0) return LOW;
        int arcs = 0;
        for (int p = 0; p < n; p++)
            for (int f = 0; f < 4; f++)
                for (int c = 0; c < 4; c++)
                    if (c != f) arcs += to[p][f] == null ? 2 * arcs(p, f, c) : arcs(p, f, c);
        int points = 0;
        int[] edge = edges();
        Set<Integer> seen = new HashSet<>();
        for (int x = 0; x < edge.length; x++)
            if (seen.add(edge[x])) points += pointsOn(x / 6, LO[x % 6], HI[x % 6]).size();
        return points - arcs / 2 + Arrays.stream(sheet).sum();
    }

    int parts() {
        if (legal() != 0) return NOT;
        if (Arrays.stream(sheet).sum() > 400) return FULL;
        return new Pieces().roots.size();
    }

    int part(int k, int what) {
        int all = parts();
        if (k < 0 || k >= all || what < 0 || what > 2) return LOW;
        Pieces x = new Pieces();
        return what == 0 ? x.cuts(k) : what == 1 ? x.euler(k) : x.two(k);
    }

    // ---- the space

    private static final int[] LO = {0, 0, 0, 1, 1, 2};
    private static final int[] HI = {1, 2, 3, 2, 3, 3};

    private boolean side(int p, int f) {
        return p >= 0 && p < n && f >= 0 && f < 4;
    }

    private static int max(int[] row) {
        int best = -1;
        for (int v : row) best = Math.max(best, v);
        return best;
    }

    /** Class numbers of 0 .. size-1, by least members, of all that the links join. */
    private static int[] classes(int size, List<int[]> links) {
        int[] name = new int[size];
        Arrays.fill(name, -1);
        int next = 0;
        for (int x = 0; x < size; x++) {
            if (name[x] >= 0) continue;
            name[x] = next;
            boolean grew = true;
            while (grew) {
                grew = false;
                for (int[] l : links) {
                    if ((name[l[0]] == next) != (name[l[1]] == next)) {
                        name[l[0]] = next;
                        name[l[1]] = next;
                        grew = true;
                    }
                }
            }
            next++;
        }
        return name;
    }

    private int[] corners() {
        List<int[]> links = new ArrayList<>();
        for (int p = 0; p < n; p++)
            for (int f = 0; f < 4; f++)
                for (int c = 0; c < 4; c++)
                    if (to[p][f] != null && c != f) links.add(new int[] {4 * p + c, 4 * to[p][f][0] + to[p][f][1 + c]});
        return classes(4 * n, links);
    }

    private static int edge(int a, int b) {
        for (int e = 0; e < 6; e++) if (Math.min(a, b) == LO[e] && Math.max(a, b) == HI[e]) return e;
        throw new IllegalStateException();
    }

    private int[] edges() {
        List<int[]> links = new ArrayList<>();
        for (int p = 0; p < n; p++)
            for (int f = 0; f < 4; f++)
                for (int e = 0; e < 6; e++) {
                    int[] t = to[p][f];
                    if (t == null || LO[e] == f || HI[e] == f) continue;
                    links.add(new int[] {6 * p + e, 6 * t[0] + edge(t[1 + LO[e]], t[1 + HI[e]])});
                }
        return classes(6 * n, links);
    }

    /** Class names of ends: at 16 p + 4 a + b the end at a of the edge ab. */
    private int[] ends() {
        List<int[]> links = new ArrayList<>();
        for (int p = 0; p < n; p++)
            for (int f = 0; f < 4; f++)
                for (int a = 0; a < 4; a++)
                    for (int b = 0; b < 4; b++) {
                        int[] t = to[p][f];
                        if (t == null || a == f || b == f || a == b) continue;
                        links.add(new int[] {16 * p + 4 * a + b, 16 * t[0] + 4 * t[1 + a] + t[1 + b]});
                    }
        return classes(16 * n, links);
    }

    private int sets() {
        List<int[]> links = new ArrayList<>();
        for (int p = 0; p < n; p++) for (int f = 0; f < 4; f++) if (to[p][f] != null) links.add(new int[] {p, to[p][f][0]});
        return max(classes(n, links)) + 1;
    }

    private boolean whole(int open) {
        if (n == 0 || open > 0) return false;
        for (int k = 0; k <= max(edges()); k++) if (bent(k) == 1) return false;
        for (int k = 0; k <= max(corners()); k++) if (link(k) != 2) return false;
        return true;
    }

    private boolean even() {
        for (int told = 0; told < 1 << n; told++) {
            boolean good = true;
            for (int p = 0; p < n; p++)
                for (int f = 0; f < 4; f++) {
                    int[] t = to[p][f];
                    if (t == null) continue;
                    long product = 1;
                    for (int i = 0; i < 4; i++) for (int j = 0; j < i; j++) product *= t[1 + i] - t[1 + j];
                    boolean alike = (told >> p & 1) == (told >> t[0] & 1);
                    if (alike == product > 0) good = false;
                }
            if (good) return true;
        }
        return false;
    }

    /** A row for each edge class without an open side, walked from its last member, the other way round. */
    private List<long[]> loops() {
        Map<List<Integer>, Integer> pair = new HashMap<>();
        int pairs = 0;
        for (int p = 2; p >= 0; p--)
            for (int f = 3; f >= 0; f--) {
                if (p >= n || to[p][f] == null || pair.containsKey(List.of(p, f))) continue;
                pair.put(List.of(p, f), pairs);
                pair.put(List.of(to[p][f][0], to[p][f][1 + f]), pairs++);
            }
        int[] edge = edges();
        List<long[]> rows = new ArrayList<>();
        for (int k = 0; k <= max(edge); k++) {
            boolean open = false;
            int last = -1;
            for (int x = 0; x < edge.length; x++) {
                if (edge[x] != k) continue;
                last = x;
                for (int f = 0; f < 4; f++)
                    if (f != LO[x % 6] && f != HI[x % 6] && to[x / 6][f] == null) open = true;
            }
            if (open) continue;
            long[] row = new long[pairs];
            int p = last / 6;
            int a = LO[last % 6];
            int b = HI[last % 6];
            int f = 3;
            while (f == a || f == b) f--;
            List<Integer> start = List.of(p, Math.min(a, b), Math.max(a, b), f);
            List<Integer> now;
            do {
                int[] t = to[p][f];
                int g = t[1 + f];
                row[pair.get(List.of(p, f))] += 4 * p + f < 4 * t[0] + g ? 1 : -1;
                p = t[0];
                a = t[1 + a];
                b = t[1 + b];
                f = 0;
                while (f == a || f == b || f == g) f++;
                now = List.of(p, Math.min(a, b), Math.max(a, b), f);
            } while (!now.equals(start));
            rows.add(row);
        }
        return rows;
    }

    /** The common divisor of all minors of a size, 0 if there are none but 0. */
    private static long minors(List<long[]> rows, int columns, int size) {
        long common = 0;
        for (int r = 0; r < 1 << rows.size(); r++) {
            if (Integer.bitCount(r) != size) continue;
            for (int c = 0; c < 1 << columns; c++) {
                if (Integer.bitCount(c) != size) continue;
                common = gcd(common, Math.abs(minor(rows, r, c)));
                if (common == 1) return 1;
            }
        }
        return common;
    }

    private static long minor(List<long[]> rows, int r, int c) {
        if (r == 0) return 1;
        int row = Integer.numberOfTrailingZeros(r);
        long sum = 0;
        int sign = 1;
        for (int x = 0; x < 31; x++) {
            if ((c >> x & 1) == 0) continue;
            long v = rows.get(row)[x];
            if (v != 0) sum += sign * v * minor(rows, r & (r - 1), c & ~(1 << x));
            sign = -sign;
        }
        return sum;
    }

    private static long gcd(long a, long b) {
        return b == 0 ? a : gcd(b, a % b);
    }

    // ---- least sheets: a positive row is least if no smaller set of columns depends

    private List<int[]> leastRows() {
        String key = n + Arrays.deepToString(to);
        if (!KNOWN.containsKey(key)) {
            List<long[]> columns = columns();
            TreeSet<int[]> found = new TreeSet<>(Arrays::compare);
            search(columns, 0, new ArrayList<>(), found, 0);
            KNOWN.put(key, new ArrayList<>(found));
        }
        return KNOWN.get(key);
    }

    /** Of each number of a sheet what it adds to each equation. */
    private List<long[]> columns() {
        List<long[]> all = new ArrayList<>();
        for (int x = 0; x < 7 * n; x++) {
            int[] kept = sheet;
            sheet = new int[7 * n];
            sheet[x] = 1;
            long[] column = new long[48];
            for (int p = 0; p < n; p++)
                for (int f = 0; f < 4; f++)
                    for (int c = 0; c < 4; c++) {
                        int[] t = to[p][f];
                        if (t == null || c == f) continue;
                        column[16 * p + 4 * f + c] = arcs(p, f, c) - arcs(t[0], t[1 + f], t[1 + c]);
                    }
            sheet = kept;
            all.add(column);
        }
        return all;
    }

    /** base: columns that do not depend, each as {what is left of it .. how it is made}. */
    private void search(List<long[]> columns, int from, List<long[]> base, TreeSet<int[]> found, int used) {
        for (int x = from; x < columns.size(); x++) {
            int fours = (used | 1 << x) >> (x / 7 * 7 + 4) & 7;
            if (Integer.bitCount(fours) > 1) continue;
            long[] left = Arrays.copyOf(columns.get(x), 48 + columns.size());
            left[48 + x] = 1;
            for (long[] b : base) {
                int at = pivot(b);
                if (left[at] != 0) left = mixed(left, b, at);
            }
            if (pivot(left) < 48) {
                base.add(left);
                search(columns, x + 1, base, found, used | 1 << x);
                base.remove(base.size() - 1);
            } else {
                keepIfPositive(left, found);
            }
        }
    }

    private static int pivot(long[] row) {
        for (int i = 0; i < 48; i++) if (row[i] != 0) return i;
        return 48;
    }

    private static long[] mixed(long[] row, long[] base, int at) {
        long[] made = new long[row.length];
        long common = 0;
        for (int i = 0; i < row.length; i++) {
            made[i] = Math.subtractExact(Math.multiplyExact(row[i], base[at]), Math.multiplyExact(base[i], row[at]));
            common = gcd(common, Math.abs(made[i]));
        }
        for (int i = 0; i < row.length && common > 1; i++) made[i] /= common;
        return made;
    }

    private static void keepIfPositive(long[] row, TreeSet<int[]> found) {
        int[] made = new int[row.length - 48];
        long common = 0;
        int signs = 0;
        for (int i = 0; i < made.length; i++) {
            long v = row[48 + i];
            common = gcd(common, Math.abs(v));
            signs |= v > 0 ? 1 : v < 0 ? 2 : 0;
        }
        if (signs == 3) return;
        for (int i = 0; i < made.length; i++) made[i] = (int) Math.abs(row[48 + i] / common);
        found.add(made);
    }

    // ---- the sheet

    /** The kind of FOURS that have the corners a and b on one side. */
    private static int four(int a, int b) {
        int e = edge(a, b);
        return e < 3 ? e : 5 - e;
    }

    private int arcs(int p, int f, int c) {
        return sheet[7 * p + c] + sheet[7 * p + 4 + four(c, f)];
    }

    /** The cuts {p, kind, number} that meet the edge ab, from a to b. */
    private List<List<Integer>> pointsOn(int p, int a, int b) {
        List<List<Integer>> cuts = new ArrayList<>();
        for (int i = 0; i < sheet[7 * p + a]; i++) cuts.add(List.of(p, a, i));
        for (int kind = 0; kind < 3; kind++) {
            if (kind == four(a, b)) continue;
            boolean nearZero = a == 0 || four(0, a) == kind;
            int many = sheet[7 * p + 4 + kind];
            for (int i = 0; i < many; i++) cuts.add(List.of(p, 4 + kind, nearZero ? i : many - 1 - i));
        }
        for (int i = sheet[7 * p + b] - 1; i >= 0; i--) cuts.add(List.of(p, b, i));
        return cuts;
    }

    /** Whether a cut told + looks from its point on the edge ab to a. */
    private static boolean looksTo(List<Integer> cut, int a) {
        int kind = cut.get(1);
        return kind < 4 ? kind == a : a == 0 || four(0, a) == kind - 4;
    }

    private final class Pieces {
        final List<List<Integer>> all = new ArrayList<>();
        final Map<List<Integer>, Integer> index = new HashMap<>();
        final List<int[]> joins = new ArrayList<>();      // {cut, cut, 1 if unlike}
        final int[] name;
        final Set<Integer> roots = new TreeSet<>();

        Pieces() {
            for (int p = 0; p < n; p++)
                for (int kind = 0; kind < 7; kind++)
                    for (int i = 0; i < sheet[7 * p + kind]; i++) {
                        index.put(List.of(p, kind, i), all.size());
                        all.add(List.of(p, kind, i));
                    }
            for (int p = 0; p < n; p++)
                for (int f = 0; f < 4; f++)
                    for (int e = 0; e < 6; e++)
                        if (to[p][f] != null && LO[e] != f && HI[e] != f) joinOn(p, f, LO[e], HI[e]);
            name = colours();
            for (int x : name) roots.add(x);
        }

        /** Each edge of a side: what meets it there is what meets it across, point by point. */
        void joinOn(int p, int f, int a, int b) {
            int[] t = to[p][f];
            List<List<Integer>> here = pointsOn(p, a, b);
            List<List<Integer>> there = pointsOn(t[0], t[1 + a], t[1 + b]);
            for (int i = 0; i < here.size(); i++) {
                boolean alike = looksTo(here.get(i), a) == looksTo(there.get(i), t[1 + a]);
                joins.add(new int[] {index.get(here.get(i)), index.get(there.get(i)), alike ? 0 : 1});
            }
        }

        int[] colours() {
            return classes(all.size(), joins);
        }

        int cuts(int k) {
            int many = 0;
            for (int x : name) if (x == k) many++;
            return many;
        }

        int euler(int k) {
            int sum = cuts(k);
            int[] edge = edges();
            Set<Integer> seen = new HashSet<>();
            for (int x = 0; x < edge.length; x++) {
                if (!seen.add(edge[x])) continue;
                for (List<Integer> cut : pointsOn(x / 6, LO[x % 6], HI[x % 6])) if (name[index.get(cut)] == k) sum++;
            }
            int halves = 0;
            for (int x = 0; x < name.length; x++) {
                if (name[x] != k) continue;
                int kind = all.get(x).get(1);
                for (int f = 0; f < 4; f++) if (f != kind) halves += to[all.get(x).get(0)][f] == null ? 2 : 1;
            }
            return sum - halves / 2;
        }

        int two(int k) {
            int[] told = new int[all.size()];
            Arrays.fill(told, -1);
            for (int x = 0; x < told.length; x++) {
                if (name[x] == k) {
                    told[x] = 0;
                    break;
                }
            }
            boolean grew = true;
            while (grew) {
                grew = false;
                for (int[] j : joins) {
                    for (int way = 0; way < 2; way++) {
                        int x = j[way];
                        int y = j[1 - way];
                        if (told[x] < 0) continue;
                        if (told[y] < 0) {
                            told[y] = told[x] ^ j[2];
                            grew = true;
                        } else if (told[y] != (told[x] ^ j[2])) {
                            return 0;
                        }
                    }
                }
            }
            return 1;
        }
    }
}
