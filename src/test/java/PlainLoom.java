import java.util.ArrayList;
import java.util.List;

/**
 * The document's words done slowly and in other ways than the program does them: maps as the columns that many
 * equations lead to 0, spans out of the maps from each span, pairings with a place to stay alone for each span.
 */
final class PlainLoom {
    static final int NONE = -1;
    private static final long BIG_PRIME = 1_000_000_007L;

    final int p;
    final int n;
    final int[] lefts = new int[8];
    final int[][] sizes;
    final int[][][][] tables;

    PlainLoom(int p, int n) {
        this.p = p;
        this.n = n;
        this.sizes = new int[8][n];
        this.tables = new int[8][n - 1][4][4];
    }

    static boolean in(int k, int bound) {
        return 0 <= k && k < bound;
    }

    int source(int ways, int arrow) {
        return (ways & 1 << arrow) != 0 ? arrow + 1 : arrow;
    }

    int target(int ways, int arrow) {
        return (ways & 1 << arrow) != 0 ? arrow : arrow + 1;
    }

    int height(int l, int arrow) {
        return sizes[l][target(lefts[l], arrow)];
    }

    int columns(int l, int arrow) {
        return sizes[l][source(lefts[l], arrow)];
    }

    int[][] table(int l, int arrow) {
        int[][] table = new int[height(l, arrow)][columns(l, arrow)];
        for (int r = 0; r < table.length; r++) {
            System.arraycopy(tables[l][arrow][r], 0, table[r], 0, table[r].length);
        }
        return table;
    }

    private boolean waysFit(int ways) {
        return ways >= 0 && ways < (1 << (n - 1));
    }

    private void replace(int l, int ways, int[] newSizes, int[][][] newTables) {
        lefts[l] = ways;
        sizes[l] = newSizes;
        tables[l] = newTables;
    }

    boolean lay(int l, int ways, int packed) {
        if (!in(l, 8) || !waysFit(ways) || packed < 0) {
            return false;
        }
        int[] newSizes = new int[n];
        long rest = packed;
        for (int k = 0; k < n; k++) {
            newSizes[k] = (int) (rest % 8);
            rest /= 8;
            if (newSizes[k] > 4) {
                return false;
            }
        }
        if (rest != 0) {
            return false;
        }
        replace(l, ways, newSizes, new int[n - 1][4][4]);
        return true;
    }

    boolean hasCell(int l, int arrow, int row, int column) {
        return in(l, 8) && in(arrow, n - 1) && in(row, height(l, arrow)) && in(column, columns(l, arrow));
    }

    boolean set(int l, int arrow, int row, int column, int v) {
        if (!hasCell(l, arrow, row, column)) {
            return false;
        }
        tables[l][arrow][row][column] = (int) ((((long) v % p) + p) % p);
        return true;
    }

    int get(int l, int arrow, int row, int column) {
        return hasCell(l, arrow, row, column) ? tables[l][arrow][row][column] : NONE;
    }

    int size(int l, int post) {
        return in(l, 8) && in(post, n) ? sizes[l][post] : NONE;
    }

    int ways(int l) {
        return in(l, 8) ? lefts[l] : NONE;
    }

    boolean span(int l, int ways, int a, int b) {
        if (!in(l, 8) || !waysFit(ways) || !in(a, n) || !in(b, n) || a > b) {
            return false;
        }
        int[] newSizes = new int[n];
        int[][][] newTables = new int[n - 1][4][4];
        for (int k = 0; k < n; k++) {
            newSizes[k] = a <= k && k <= b ? 1 : 0;
            if (a < k && k <= b) {
                newTables[k - 1][0][0] = 1;
            }
        }
        replace(l, ways, newSizes, newTables);
        return true;
    }

    boolean sameWays(int a, int b) {
        return in(a, 8) && in(b, 8) && lefts[a] == lefts[b];
    }

    boolean beside(int a, int b, int to) {
        if (!in(to, 8) || !sameWays(a, b)) {
            return false;
        }
        int[] newSizes = new int[n];
        for (int k = 0; k < n; k++) {
            newSizes[k] = sizes[a][k] + sizes[b][k];
            if (newSizes[k] > 4) {
                return false;
            }
        }
        int[][][] newTables = new int[n - 1][4][4];
        for (int k = 0; k < n - 1; k++) {
            int[][] first = table(a, k);
            int[][] second = table(b, k);
            for (int r = 0; r < first.length + second.length; r++) {
                for (int c = 0; c < columns(a, k) + columns(b, k); c++) {
                    boolean above = r < first.length;
                    boolean left = c < columns(a, k);
                    newTables[k][r][c] = above && left ? first[r][c]
                            : !above && !left ? second[r - first.length][c - columns(a, k)] : 0;
                }
            }
        }
        replace(to, lefts[a], newSizes, newTables);
        return true;
    }

    boolean mix(int l, int post, int i, int j, int c) {
        if (!in(l, 8) || !in(post, n) || !in(i, sizes[l][post]) || !in(j, sizes[l][post]) || i == j || !in(c, p)) {
            return false;
        }
        // In: the change E from the left; out: its inverse from the right.
        int size = sizes[l][post];
        int[][] change = new int[size][size];
        int[][] back = new int[size][size];
        for (int k = 0; k < size; k++) {
            change[k][k] = 1;
            back[k][k] = 1;
        }
        change[i][j] = c;
        back[i][j] = (p - c) % p;
        for (int k = 0; k < n - 1; k++) {
            int[][] old = table(l, k);
            int[][] changed = old;
            if (target(lefts[l], k) == post) {
                changed = Plain.times(change, old, columns(l, k), p);
            } else if (source(lefts[l], k) == post) {
                changed = Plain.times(old, back, size, p);
            }
            for (int r = 0; r < changed.length; r++) {
                System.arraycopy(changed[r], 0, tables[l][k][r], 0, changed[r].length);
            }
        }
        return true;
    }

    int turn(int l, int post, int to) {
        if (!in(l, 8) || !in(to, 8) || !in(post, n) || n == 1) {
            return NONE;
        }
        List<Integer> arrows = new ArrayList<>();
        int ins = 0;
        for (int k = post - 1; k <= post; k++) {
            if (in(k, n - 1)) {
                arrows.add(k);
                ins += target(lefts[l], k) == post ? 1 : 0;
            }
        }
        if (ins != 0 && ins != arrows.size()) {
            return NONE;
        }
        boolean inward = ins != 0;
        int width = 0;
        for (int k : arrows) {
            width += sizes[l][2 * k + 1 - post];
        }
        int[][] rows = new int[sizes[l][post]][width];
        int offset = 0;
        for (int k : arrows) {
            int[][] table = table(l, k);
            int neighbour = sizes[l][2 * k + 1 - post];
            for (int r = 0; r < rows.length; r++) {
                for (int q = 0; q < neighbour; q++) {
                    rows[r][offset + q] = inward ? table[r][q] : table[q][r];
                }
            }
            offset += neighbour;
        }
        List<Integer> heads = new ArrayList<>();
        List<Integer> free = new ArrayList<>();
        for (int place = 0; place < width; place++) {
            (rankOfFirst(rows, place + 1) > rankOfFirst(rows, place) ? heads : free).add(place);
        }
        if (free.size() > 4) {
            return NONE;
        }
        int[] newSizes = sizes[l].clone();
        newSizes[post] = free.size();
        int[][][] newTables = new int[n - 1][][];
        for (int k = 0; k < n - 1; k++) {
            newTables[k] = new int[4][4];
            for (int r = 0; r < 4; r++) {
                newTables[k][r] = tables[l][k][r].clone();
            }
        }
        int ways = lefts[l];
        for (int k : arrows) {
            ways ^= 1 << k;
            newTables[k] = new int[4][4];
        }
        for (int f = 0; f < free.size(); f++) {
            int[] w = ledToNothing(rows, heads, free.get(f), width);
            offset = 0;
            for (int k : arrows) {
                int neighbour = sizes[l][2 * k + 1 - post];
                for (int q = 0; q < neighbour; q++) {
                    if (inward) {
                        newTables[k][q][f] = w[offset + q];
                    } else {
                        newTables[k][f][q] = w[offset + q];
                    }
                }
                offset += neighbour;
            }
        }
        replace(to, ways, newSizes, newTables);
        return free.size();
    }

    private int rankOfFirst(int[][] rows, int places) {
        int[][] cut = new int[rows.length][places];
        for (int r = 0; r < rows.length; r++) {
            System.arraycopy(rows[r], 0, cut[r], 0, places);
        }
        return Plain.rank(cut, p);
    }

    /** The one column that is 1 at the free place, 0 at other free ones, and that all rows lead to 0. */
    private int[] ledToNothing(int[][] rows, List<Integer> heads, int free, int width) {
        int h = heads.size();
        int tries = 1;
        for (int k = 0; k < h; k++) {
            tries *= p;
        }
        for (int t = 0; t < tries; t++) {
            int[] w = new int[width];
            w[free] = 1;
            int rest = t;
            for (int head : heads) {
                w[head] = rest % p;
                rest /= p;
            }
            boolean zero = true;
            for (int[] row : rows) {
                int sum = 0;
                for (int c = 0; c < width; c++) {
                    sum += row[c] * w[c];
                }
                zero = zero && sum % p == 0;
            }
            if (zero) {
                return w;
            }
        }
        throw new IllegalStateException("no such column");
    }

    int maps(int a, int b) {
        if (!sameWays(a, b)) {
            return NONE;
        }
        int[][][] to = new int[n - 1][][];
        int[][][] from = new int[n - 1][][];
        for (int k = 0; k < n - 1; k++) {
            from[k] = table(a, k);
            to[k] = table(b, k);
        }
        return mapsBetween(lefts[a], sizes[a], from, sizes[b], to);
    }

    /** Unknowns are all numbers of all tables of the map; each arrow asks F(target) A = B F(source). */
    private int mapsBetween(int ways, int[] x, int[][][] from, int[] y, int[][][] to) {
        int[] first = new int[n + 1];
        for (int k = 0; k < n; k++) {
            first[k + 1] = first[k] + x[k] * y[k];
        }
        List<long[]> equations = new ArrayList<>();
        for (int k = 0; k < n - 1; k++) {
            int s = source(ways, k);
            int t = target(ways, k);
            for (int r = 0; r < y[t]; r++) {
                for (int c = 0; c < x[s]; c++) {
                    long[] equation = new long[first[n]];
                    for (int q = 0; q < x[t]; q++) {
                        equation[first[t] + r * x[t] + q] += from[k][q][c];
                    }
                    for (int q = 0; q < y[s]; q++) {
                        equation[first[s] + q * x[s] + c] += p - to[k][r][q];
                    }
                    for (int q = 0; q < equation.length; q++) {
                        equation[q] %= p;
                    }
                    equations.add(equation);
                }
            }
        }
        return first[n] - Plain.rank(equations, p);
    }

    int form(int a, int b) {
        if (!in(a, 8) || !in(b, 8)) {
            return 0;
        }
        int sum = 0;
        for (int k = 0; k < n; k++) {
            sum += sizes[a][k] * sizes[b][k];
        }
        for (int k = 0; k < n - 1; k++) {
            sum -= (lefts[a] & 1 << k) != 0 ? sizes[a][k + 1] * sizes[b][k] : sizes[a][k] * sizes[b][k + 1];
        }
        return sum;
    }

    int bends(int a, int b) {
        return sameWays(a, b) ? maps(a, b) - form(a, b) : NONE;
    }

    private int spanIndex(int a, int b) {
        int index = 0;
        for (int start = 0; start < a; start++) {
            index += n - start;
        }
        return index + b - a;
    }

    private int[] spanSizes(int a, int b) {
        int[] x = new int[n];
        for (int k = a; k <= b; k++) {
            x[k] = 1;
        }
        return x;
    }

    private int[][][] spanTables(int ways, int a, int b) {
        int[] x = spanSizes(a, b);
        int[][][] t = new int[n - 1][][];
        for (int k = 0; k < n - 1; k++) {
            t[k] = new int[x[target(ways, k)]][x[source(ways, k)]];
            if (a <= k && k < b) {
                t[k][0][0] = 1;
            }
        }
        return t;
    }

    /** How many times each span is there: the maps from each span tell it, as their table has an inverse. */
    long[] allSpans(int l) {
        int all = n * (n + 1) / 2;
        long[][] between = new long[all][all];
        long[] into = new long[all];
        int ways = lefts[l];
        int[][][] own = new int[n - 1][][];
        for (int k = 0; k < n - 1; k++) {
            own[k] = table(l, k);
        }
        for (int a = 0; a < n; a++) {
            for (int b = a; b < n; b++) {
                int[] x = spanSizes(a, b);
                int[][][] t = spanTables(ways, a, b);
                into[spanIndex(a, b)] = mapsBetween(ways, x, t, sizes[l], own);
                for (int c = 0; c < n; c++) {
                    for (int d = c; d < n; d++) {
                        between[spanIndex(a, b)][spanIndex(c, d)] =
                                mapsBetween(ways, x, t, spanSizes(c, d), spanTables(ways, c, d));
                    }
                }
            }
        }
        return Plain.solve(between, into, BIG_PRIME);
    }

    int spans(int l, int a, int b) {
        return in(l, 8) && in(a, n) && in(b, n) && a <= b ? (int) allSpans(l)[spanIndex(a, b)] : NONE;
    }

    boolean like(int a, int b) {
        return sameWays(a, b) && java.util.Arrays.equals(allSpans(a), allSpans(b));
    }

    int rank(int l, int a, int b) {
        if (!in(l, 8) || !in(a, n) || !in(b, n)) {
            return NONE;
        }
        int size = sizes[l][a];
        int[][] led = new int[size][size];
        for (int k = 0; k < size; k++) {
            led[k][k] = 1;
        }
        int step = a < b ? 1 : -1;
        for (int at = a; at != b; at += step) {
            int arrow = Math.min(at, at + step);
            if (source(lefts[l], arrow) != at) {
                return NONE;
            }
            led = Plain.times(table(l, arrow), led, size, p);
        }
        return Plain.rank(led, p);
    }

    int far(int a, int b) {
        if (!sameWays(a, b) || lefts[a] != 0) {
            return NONE;
        }
        List<int[]> first = listed(allSpans(a));
        List<int[]> second = listed(allSpans(b));
        for (int most = 0; ; most++) {
            if (canPair(first, second, most)) {
                return most;
            }
        }
    }

    private List<int[]> listed(long[] times) {
        List<int[]> list = new ArrayList<>();
        for (int a = 0; a < n; a++) {
            for (int b = a; b < n; b++) {
                for (long k = 0; k < times[spanIndex(a, b)]; k++) {
                    list.add(new int[] {a, b});
                }
            }
        }
        return list;
    }

    /** Each span has a place of its own on the other side to stay alone; these places may be paired at no cost. */
    static boolean canPair(List<int[]> first, List<int[]> second, int most) {
        int all = first.size() + second.size();
        boolean[][] near = new boolean[all][all];
        for (int i = 0; i < all; i++) {
            for (int j = 0; j < all; j++) {
                boolean real = i < first.size();
                boolean other = j < second.size();
                if (real && other) {
                    near[i][j] = cost(first.get(i), second.get(j)) <= most;
                } else if (real) {
                    near[i][j] = j - second.size() == i && alone(first.get(i)) <= most;
                } else if (other) {
                    near[i][j] = i - first.size() == j && alone(second.get(j)) <= most;
                } else {
                    near[i][j] = true;
                }
            }
        }
        int[] pairOf = new int[all];
        java.util.Arrays.fill(pairOf, -1);
        for (int i = 0; i < all; i++) {
            if (!augment(near, pairOf, i, new boolean[all])) {
                return false;
            }
        }
        return true;
    }

    private static boolean augment(boolean[][] near, int[] pairOf, int i, boolean[] seen) {
        for (int j = 0; j < seen.length; j++) {
            if (near[i][j] && !seen[j]) {
                seen[j] = true;
                if (pairOf[j] < 0 || augment(near, pairOf, pairOf[j], seen)) {
                    pairOf[j] = i;
                    return true;
                }
            }
        }
        return false;
    }

    static int cost(int[] s, int[] t) {
        return 2 * Math.max(Math.abs(s[0] - t[0]), Math.abs(s[1] - t[1]));
    }

    static int alone(int[] s) {
        return s[1] - s[0] + 1;
    }
}
