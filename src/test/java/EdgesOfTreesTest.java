import java.io.IOException;

/** Promises 18 and 19 (kind, roots): a test for each sentence that names an edge, called by its place and its words. */
public final class EdgesOfTreesTest {
    private static final int LEAST = Integer.MIN_VALUE;
    private static final int GREATEST = Integer.MAX_VALUE;
    private static final int[][] NO_SUCH_NUMBER = {{0, 0}, {-1, 0}, {10, 0}, {11, 0}, {10, 76543210}, {LEAST, 0},
        {GREATEST, 0}};
    private static final int[][] BELOW_NOTHING = {{1, -1}, {2, -1}, {3, -10}, {5, -1000}, {9, -76543210}, {1, LEAST},
        {9, LEAST}, {9, -1}};
    private static final int[][] MORE_DIGITS = {{1, 1}, {1, 10}, {2, 10}, {3, 100}, {3, 110}, {4, 1000}, {5, 10000},
        {6, 100000}, {7, 1000000}, {8, 10000000}, {9, 100000000}, {9, 1000000000}, {9, 2000000000}, {1, 1000000000},
        {9, 176543210}};

    private final Check check;
    private final SpanLoom loom = new SpanLoom(2, 1);

    private EdgesOfTreesTest(Check check) {
        this.check = check;
    }

    public static void main(String[] args) throws IOException {
        EdgesOfTreesTest test = new EdgesOfTreesTest(new Check(Document.given(args)));
        test.check.run(
                test::kindOfOneToNine, test::kindOfDigits, test::kindOfParentsThatAreNotBelow,
                test::kindNoSuchNumber, test::kindParentsBelowNothing, test::kindMoreDigits, test::rootsOfOneToNine,
                test::rootsOfTame, test::rootsOfWild, test::rootsNoSuchNumber, test::rootsOfParentsThatAreNotBelow,
                test::rootsParentsBelowNothing, test::rootsMoreDigits);
        test.check.end();
    }

    /** Stars: FINITE up to four posts, TAME of five, WILD of more. */
    private void kindOfOneToNine() {
        check.sentence("Promise 18", "KIND of a TREE of n POSTS (1 .. 9)");
        int[] want = {1, 1, 1, 1, 2, 3, 3, 3, 3};
        for (int n = 1; n <= 9; n++) {
            check.due("a star of " + n, loom.kind(n, 0), want[n - 1]);
        }
    }

    /** Digits of 0 that no one writes, since they come first, are parents, too. */
    private void kindOfDigits() {
        check.sentence("Promise 18", "POST k (1 .. n - 1) is joined with the POST that is parents by 10 to the power "
                + "of k - 1, modulo 10");
        check.due("POST 4 at POST 0", loom.kind(5, 0), 2);
        check.due("POST 4 at POST 1", loom.kind(5, 1000), 1);
        check.due("POST 8 at POST 7", loom.kind(9, 76543210), 1);
        check.due("POST 8 at POST 0", loom.kind(9, 6543210), 1);
        check.due("POST 8 at POST 2", loom.kind(9, 26543210), 2);
        check.due("POST 8 at POST 3", loom.kind(9, 36543210), 3);
    }

    private void kindOfParentsThatAreNotBelow() {
        check.sentence("Promise 18", "which must be below k");
        for (int k = 1, by = 1; k <= 8; k++, by *= 10) {
            for (int n = k + 1; n <= 9; n++) {
                check.due("parent " + (k - 1) + " of " + k, loom.kind(n, (k - 1) * by) > 0, true);
                for (int parent = k; parent <= 9; parent++) {
                    check.due("parent " + parent + " of " + k, loom.kind(n, parent * by), -1);
                }
            }
        }
    }

    private void kindNoSuchNumber() {
        check.sentence("Promise 18", "NONE if n, or a parent, can't be");
        noKind(NO_SUCH_NUMBER);
    }

    private void kindParentsBelowNothing() {
        check.sentence("Promise 18", "parents is below 0");
        noKind(BELOW_NOTHING);
    }

    private void kindMoreDigits() {
        check.sentence("Promise 18", "or has more digits");
        noKind(MORE_DIGITS);
        check.due("one digit less", loom.kind(9, 10000000), 3);
        check.due("as many digits as can be", loom.kind(2, 0), 1);
    }

    private void noKind(int[][] trees) {
        for (int[] tree : trees) {
            check.due("kind(" + tree[0] + ", " + tree[1] + ")", loom.kind(tree[0], tree[1]), -1);
        }
    }

    private void rootsOfOneToNine() {
        check.sentence("Promise 19", "How many ROOTS it has");
        int[][] trees = {{1, 0, 1}, {2, 0, 3}, {9, 76543210, 45}, {9, 76543000, 72}, {8, 2543210, 120}};
        for (int[] tree : trees) {
            check.due("roots(" + tree[0] + ", " + tree[1] + ")", loom.roots(tree[0], tree[1]), tree[2]);
        }
    }

    private void rootsOfTame() {
        check.sentence("Promise 19", "0 if it isn't FINITE (KIND 2, 3)");
        int[][] trees = {{5, 0}, {6, 11000}, {7, 220010}, {8, 3300210}, {9, 44003210}, {7, 523210}, {8, 3543210},
            {9, 26543210}};
        noRoots(trees, 0);
    }

    private void rootsOfWild() {
        check.sentence("Promise 19", "0 if it isn't FINITE (KIND 2, 3)");
        int[][] trees = {{6, 0}, {9, 0}, {6, 40000}, {8, 523210}, {9, 3543210}, {9, 36543210}};
        noRoots(trees, 0);
    }

    private void rootsNoSuchNumber() {
        check.sentence("Promise 19", "NONE as of kind()");
        noRoots(NO_SUCH_NUMBER, -1);
    }

    private void rootsOfParentsThatAreNotBelow() {
        check.sentence("Promise 19", "NONE as of kind()");
        for (int k = 1, by = 1; k <= 8; k++, by *= 10) {
            check.due("parent " + (k - 1) + " of " + k, loom.roots(k + 1, (k - 1) * by) >= 0, true);
            for (int parent = k; parent <= 9; parent++) {
                check.due("parent " + parent + " of " + k, loom.roots(k + 1, parent * by), -1);
            }
        }
    }

    private void rootsParentsBelowNothing() {
        check.sentence("Promise 19", "NONE as of kind()");
        noRoots(BELOW_NOTHING, -1);
    }

    private void rootsMoreDigits() {
        check.sentence("Promise 19", "NONE as of kind()");
        noRoots(MORE_DIGITS, -1);
    }

    private void noRoots(int[][] trees, int want) {
        for (int[] tree : trees) {
            check.due("roots(" + tree[0] + ", " + tree[1] + ")", loom.roots(tree[0], tree[1]), want);
        }
    }
}
