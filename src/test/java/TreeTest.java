import java.util.ArrayList;
import java.util.List;

/** Promises 18 and 19: kind, roots. */
public final class TreeTest {
    public static void main(String[] args) {
        Check check = new Check();
        known(check);
        for (int n = 1; n <= 9; n++) {
            allTrees(check, n, 1, 0, 1);
        }
        check.end();
    }

    private static void known(Check check) {
        SpanLoom loom = new SpanLoom(2, 1);
        check.due("a line of 9", loom.kind(9, 76543210), 1);
        check.due("its roots", loom.roots(9, 76543210), 45);
        check.due("a fork of 9", loom.kind(9, 76543000), 1);
        check.due("its roots", loom.roots(9, 76543000), 72);
        check.due("roots of E6", loom.roots(6, 23210), 36);
        check.due("roots of E7", loom.roots(7, 243210), 63);
        check.due("roots of E8", loom.roots(8, 2543210), 120);
        check.due("three arms of 2", loom.kind(7, 523210), 2);
        check.due("arms of 1, 3, 3", loom.kind(8, 3543210), 2);
        check.due("arms of 1, 2, 5", loom.kind(9, 26543210), 2);
        check.due("its roots", loom.roots(9, 26543210), 0);
        check.due("arms of 1, 3, 4", loom.kind(9, 36543210), 3);
        check.due("two forks of 9", loom.kind(9, 51543210), 2);
        check.due("a star of 5 with one more", loom.kind(6, 40000), 3);
        check.due("a star of 5 with one more before it", loom.kind(6, 11110), 3);
        check.due("a star of 5", loom.kind(5, 0), 2);
        check.due("its roots", loom.roots(5, 0), 0);
        check.due("a star of 9", loom.kind(9, 0), 3);
        check.due("its roots", loom.roots(9, 0), 0);
        check.due("one post", loom.kind(1, 0), 1);
        check.due("its root", loom.roots(1, 0), 1);
        check.due("two posts", loom.roots(2, 0), 3);
    }

    private static void allTrees(Check check, int n, int post, int parents, int by) {
        if (post == n) {
            oneTree(check, n, parents);
            return;
        }
        for (int parent = 0; parent < post; parent++) {
            allTrees(check, n, post + 1, parents + parent * by, by * 10);
        }
    }

    private static void oneTree(Check check, int n, int parents) {
        int[] parent = new int[n];
        int digits = parents;
        for (int k = 1; k < n; k++) {
            parent[k] = digits % 10;
            digits /= 10;
        }
        SpanLoom loom = new SpanLoom(2, 1);
        List<int[]> roots = new ArrayList<>();
        int kind = climb(parent, roots);
        check.due("kind(" + n + ", " + parents + ")", loom.kind(n, parents), kind);
        check.due("roots(" + n + ", " + parents + ")", loom.roots(n, parents), kind == 1 ? roots.size() : 0);
    }

    /**
     * From each row that is 1 at one post alone, adds 1 wherever that keeps the form at 1. This ends with all
     * roots of a finite tree. Where adding 1 would bring the form to 0 or below, the tree is not finite: it is
     * tame if the row that was found there has no post at which the form still falls, else wild.
     */
    private static int climb(int[] parent, List<int[]> roots) {
        int n = parent.length;
        for (int k = 0; k < n; k++) {
            int[] row = new int[n];
            row[k] = 1;
            roots.add(row);
        }
        for (int at = 0; at < roots.size(); at++) {
            for (int k = 0; k < n; k++) {
                int[] next = roots.get(at).clone();
                next[k]++;
                int form = form(parent, next);
                if (form <= 0) {
                    return form < 0 || fallsAt(parent, next) ? 3 : 2;
                }
                if (form == 1 && !has(roots, next)) {
                    roots.add(next);
                }
            }
        }
        return 1;
    }

    private static boolean fallsAt(int[] parent, int[] row) {
        for (int k = 0; k < row.length; k++) {
            int slope = 2 * row[k];
            for (int j = 1; j < row.length; j++) {
                slope -= j == k ? row[parent[j]] : parent[j] == k ? row[j] : 0;
            }
            if (slope != 0) {
                return true;
            }
        }
        return false;
    }

    private static int form(int[] parent, int[] row) {
        int sum = row[0] * row[0];
        for (int k = 1; k < row.length; k++) {
            sum += row[k] * row[k] - row[k] * row[parent[k]];
        }
        return sum;
    }

    private static boolean has(List<int[]> rows, int[] row) {
        for (int[] r : rows) {
            if (java.util.Arrays.equals(r, row)) {
                return true;
            }
        }
        return false;
    }
}
