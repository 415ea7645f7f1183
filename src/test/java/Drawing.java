import java.util.ArrayList;
import java.util.Arrays;
import java.util.HashSet;
import java.util.List;
import java.util.Set;

/** A laying written out: its sizes, ways and whole tables. */
final class Drawing {
    final int p;
    final int n;
    final int ways;
    final int[] sizes;
    final int[][][] tables;

    private Drawing(int p, int n, int ways) {
        this.p = p;
        this.n = n;
        this.ways = ways;
        this.sizes = new int[n];
        this.tables = new int[n - 1][][];
    }

    static Drawing some(Dice dice, int mostPosts, int mostSize) {
        int n = dice.from(1, mostPosts);
        Drawing drawing = new Drawing(dice.once(2) ? 2 : 3, n, dice.from(0, (1 << (n - 1)) - 1));
        for (int post = 0; post < n; post++) {
            drawing.sizes[post] = dice.from(0, mostSize);
        }
        drawing.fill(dice);
        return drawing;
    }

    Drawing another(Dice dice) {
        Drawing drawing = new Drawing(p, n, ways);
        for (int post = 0; post < n; post++) {
            drawing.sizes[post] = dice.from(0, 2);
        }
        drawing.fill(dice);
        return drawing;
    }

    Drawing withOtherTables(Dice dice) {
        Drawing drawing = new Drawing(p, n, ways);
        System.arraycopy(sizes, 0, drawing.sizes, 0, n);
        drawing.fill(dice);
        return drawing;
    }

    private void fill(Dice dice) {
        for (int arrow = 0; arrow < n - 1; arrow++) {
            tables[arrow] = new int[sizes[target(arrow)]][sizes[source(arrow)]];
            for (int[] row : tables[arrow]) {
                for (int column = 0; column < row.length; column++) {
                    row[column] = dice.once(2) ? 0 : dice.from(0, p - 1);
                }
            }
        }
    }

    static Drawing of(SpanLoom loom, int l, int p) {
        Drawing drawing = new Drawing(p, loom.count(1), loom.ways(l));
        for (int post = 0; post < drawing.n; post++) {
            drawing.sizes[post] = loom.size(l, post);
        }
        for (int arrow = 0; arrow < drawing.n - 1; arrow++) {
            int[][] table = new int[drawing.sizes[drawing.target(arrow)]][drawing.sizes[drawing.source(arrow)]];
            for (int row = 0; row < table.length; row++) {
                for (int column = 0; column < table[row].length; column++) {
                    table[row][column] = loom.get(l, arrow, row, column);
                }
            }
            drawing.tables[arrow] = table;
        }
        return drawing;
    }

    SpanLoom loom() {
        return new SpanLoom(p, n);
    }

    void layAs(SpanLoom loom, int l) {
        int packed = 0;
        for (int post = n - 1; post >= 0; post--) {
            packed = packed * 8 + sizes[post];
        }
        loom.lay(l, ways, packed);
        for (int arrow = 0; arrow < n - 1; arrow++) {
            Tables.fill(loom, l, arrow, tables[arrow]);
        }
    }

    boolean isLeft(int arrow) {
        return (ways >> arrow & 1) == 1;
    }

    int source(int arrow) {
        return isLeft(arrow) ? arrow + 1 : arrow;
    }

    int target(int arrow) {
        return isLeft(arrow) ? arrow : arrow + 1;
    }

    boolean hasSizes(int[] others) {
        return Arrays.equals(sizes, others);
    }

    static int[] led(int[][] table, int[] x, int p) {
        int[] y = new int[table.length];
        for (int row = 0; row < y.length; row++) {
            for (int column = 0; column < x.length; column++) {
                y[row] = (y[row] + table[row][column] * x[column]) % p;
            }
        }
        return y;
    }

    static int imagesOf(int[][] table, int columns, int p) {
        Set<List<Integer>> seen = new HashSet<>();
        int[] x = new int[columns];
        for (int k = Counting.power(p, columns) - 1; k >= 0; k--) {
            Counting.digits(x, k, p, 0);
            seen.add(listed(led(table, x, p)));
        }
        return seen.size();
    }

    private static List<Integer> listed(int[] column) {
        List<Integer> list = new ArrayList<>();
        for (int v : column) {
            list.add(v);
        }
        return list;
    }

    /** To how many columns those of post a are led at post b; -1 if an arrow between points the other way. */
    int ledFrom(int a, int b) {
        Set<List<Integer>> seen = new HashSet<>();
        int[] x = new int[sizes[a]];
        int step = a < b ? 1 : -1;
        for (int k = Counting.power(p, x.length) - 1; k >= 0; k--) {
            Counting.digits(x, k, p, 0);
            int[] column = x;
            for (int post = a; post != b; post += step) {
                int arrow = Math.min(post, post + step);
                if (source(arrow) != post) {
                    return -1;
                }
                column = led(tables[arrow], column, p);
            }
            seen.add(listed(column));
        }
        return seen.size();
    }

    int[][][] unchanged() {
        int[][][] map = new int[n][][];
        for (int post = 0; post < n; post++) {
            map[post] = new int[sizes[post]][sizes[post]];
            for (int k = 0; k < sizes[post]; k++) {
                map[post][k][k] = 1;
            }
        }
        return map;
    }

    boolean pointsAll(int post, boolean in) {
        boolean left = post == 0 || (target(post - 1) == post) == in;
        boolean right = post == n - 1 || (target(post) == post) == in;
        return left && right;
    }

    int besideSize(int post) {
        return leftSize(post) + (post < n - 1 ? sizes[post + 1] : 0);
    }

    private int leftSize(int post) {
        return post > 0 ? sizes[post - 1] : 0;
    }

    /** T: tables side by side where arrows point in, one above the other where they point out. */
    private int[][] bothTables(int post) {
        boolean in = pointsAll(post, true);
        int beside = besideSize(post);
        int[][] t = new int[in ? sizes[post] : beside][in ? beside : sizes[post]];
        for (int w = 0; w < beside; w++) {
            boolean left = w < leftSize(post);
            int[][] table = tables[left ? post - 1 : post];
            int place = left ? w : w - leftSize(post);
            for (int k = 0; k < sizes[post]; k++) {
                if (in) {
                    t[k][w] = table[k][place];
                } else {
                    t[w][k] = table[place][k];
                }
            }
        }
        return t;
    }

    private int columnsOfBoth(int post) {
        return pointsAll(post, true) ? besideSize(post) : sizes[post];
    }

    int images(int post) {
        return imagesOf(bothTables(post), columnsOfBoth(post), p);
    }

    int solutions(int post) {
        int[][] t = bothTables(post);
        int[] x = new int[columnsOfBoth(post)];
        int found = 0;
        for (int k = Counting.power(p, x.length) - 1; k >= 0; k--) {
            Counting.digits(x, k, p, 0);
            found += Counting.isNothing(led(t, x, p)) ? 1 : 0;
        }
        return found;
    }

    /** Whether all that is led out of the turned post is led to 0 where the arrows pointed in. */
    boolean leadsInto(int post, Drawing old) {
        int[] x = new int[sizes[post]];
        for (int k = Counting.power(p, x.length) - 1; k >= 0; k--) {
            Counting.digits(x, k, p, 0);
            if (!Counting.isNothing(led(old.bothTables(post), led(bothTables(post), x, p), p))) {
                return false;
            }
        }
        return true;
    }

    /** Whether all that the arrows led out of the post is led to 0 into the turned one. */
    boolean takesForOne(int post, Drawing old) {
        int[] x = new int[old.sizes[post]];
        for (int k = Counting.power(p, x.length) - 1; k >= 0; k--) {
            Counting.digits(x, k, p, 0);
            if (!Counting.isNothing(led(bothTables(post), led(old.bothTables(post), x, p), p))) {
                return false;
            }
        }
        return true;
    }
}
