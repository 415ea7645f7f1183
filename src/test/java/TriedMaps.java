import java.util.Arrays;

/** All maps of one drawing to another one, tried one by one. */
final class TriedMaps {
    static final int MOST = 20_000;

    int count;
    boolean hasInverse;

    TriedMaps(Drawing a, Drawing b) {
        int[][][] map = new int[a.n][][];
        int unknowns = 0;
        for (int post = 0; post < a.n; post++) {
            map[post] = new int[b.sizes[post]][a.sizes[post]];
            unknowns += a.sizes[post] * b.sizes[post];
        }
        int[] numbers = new int[unknowns];
        for (int k = Counting.power(a.p, unknowns) - 1; k >= 0; k--) {
            Counting.digits(numbers, k, a.p, 0);
            spread(numbers, map);
            if (goWith(a, b, map)) {
                count++;
                hasInverse = hasInverse || b.hasSizes(a.sizes) && haveInverses(map, a.p);
            }
        }
    }

    static long tries(Drawing a, Drawing b) {
        long tries = 1;
        for (int post = 0; post < a.n; post++) {
            for (int k = 0; k < a.sizes[post] * b.sizes[post] && tries <= MOST; k++) {
                tries *= a.p;
            }
        }
        return tries;
    }

    private static void spread(int[] numbers, int[][][] map) {
        int next = 0;
        for (int[][] table : map) {
            for (int[] row : table) {
                for (int column = 0; column < row.length; column++) {
                    row[column] = numbers[next++];
                }
            }
        }
    }

    /** Along an arrow and then by the map is what is by the map and then along it. */
    static boolean goWith(Drawing a, Drawing b, int[][][] map) {
        for (int arrow = 0; arrow < a.n - 1; arrow++) {
            int from = a.source(arrow);
            int to = a.target(arrow);
            int[] x = new int[a.sizes[from]];
            // Columns with a single 1 are enough, as all others are sums of multiples of them.
            for (int k = 0; k < x.length; k++) {
                Arrays.fill(x, 0);
                x[k] = 1;
                int[] first = Drawing.led(map[to], Drawing.led(a.tables[arrow], x, a.p), a.p);
                int[] second = Drawing.led(b.tables[arrow], Drawing.led(map[from], x, a.p), a.p);
                if (!Arrays.equals(first, second)) {
                    return false;
                }
            }
        }
        return true;
    }

    /** A table has an inverse if it leads no two columns to the same. */
    private static boolean haveInverses(int[][][] map, int p) {
        for (int[][] table : map) {
            if (Drawing.imagesOf(table, table.length, p) != Counting.power(p, table.length)) {
                return false;
            }
        }
        return true;
    }
}
