import java.util.ArrayList;
import java.util.List;

/** Tables of rests by a prime, worked out without any of the program's code. */
final class Plain {
    private Plain() {
    }

    static long inverse(long v, long p) {
        long result = 1;
        long base = Math.floorMod(v, p);
        for (long e = p - 2; e > 0; e >>= 1) {
            if ((e & 1) == 1) {
                result = result * base % p;
            }
            base = base * base % p;
        }
        return result;
    }

    static int rank(List<long[]> given, long p) {
        List<long[]> kept = new ArrayList<>();
        for (long[] row : given) {
            long[] left = row.clone();
            for (long[] k : kept) {
                int head = head(k);
                long factor = left[head] * inverse(k[head], p) % p;
                for (int c = 0; c < left.length; c++) {
                    left[c] = Math.floorMod(left[c] - factor * k[c], p);
                }
            }
            if (head(left) >= 0) {
                kept.add(left);
            }
        }
        return kept.size();
    }

    private static int head(long[] row) {
        for (int c = 0; c < row.length; c++) {
            if (row[c] != 0) {
                return c;
            }
        }
        return -1;
    }

    static int rank(int[][] table, int p) {
        List<long[]> rows = new ArrayList<>();
        for (int[] row : table) {
            long[] copy = new long[row.length];
            for (int c = 0; c < row.length; c++) {
                copy[c] = row[c];
            }
            rows.add(copy);
        }
        return rank(rows, p);
    }

    static int[][] times(int[][] a, int[][] b, int columns, int p) {
        int[][] product = new int[a.length][columns];
        for (int r = 0; r < a.length; r++) {
            for (int c = 0; c < columns; c++) {
                int sum = 0;
                for (int k = 0; k < b.length; k++) {
                    sum += a[r][k] * b[k][c];
                }
                product[r][c] = sum % p;
            }
        }
        return product;
    }

    /** The x of m x = h, where m has an inverse by the prime p. */
    static long[] solve(long[][] m, long[] h, long p) {
        int n = h.length;
        long[][] a = new long[n][n + 1];
        for (int r = 0; r < n; r++) {
            System.arraycopy(m[r], 0, a[r], 0, n);
            a[r][n] = h[r];
        }
        for (int c = 0; c < n; c++) {
            int at = c;
            while (a[at][c] % p == 0) {
                at++;
            }
            long[] swapped = a[at];
            a[at] = a[c];
            a[c] = swapped;
            long inverse = inverse(a[c][c], p);
            for (int k = 0; k <= n; k++) {
                a[c][k] = Math.floorMod(a[c][k] * inverse, p);
            }
            for (int r = 0; r < n; r++) {
                long factor = a[r][c];
                if (r != c && factor != 0) {
                    for (int k = 0; k <= n; k++) {
                        a[r][k] = Math.floorMod(a[r][k] - factor * a[c][k], p);
                    }
                }
            }
        }
        long[] x = new long[n];
        for (int r = 0; r < n; r++) {
            x[r] = a[r][n];
        }
        return x;
    }
}
