/** Promises 2 to 6: lay, set, get, size, ways. */
public final class LayingTest {
    public static void main(String[] args) {
        Check check = new Check();
        lay(check);
        setAndGet(check);
        tableSizesFollowWays(check);
        check.end();
    }

    private static void lay(Check check) {
        SpanLoom loom = new SpanLoom(3, 8);
        check.due("lay all posts", loom.lay(7, 127, 0_43210432), true);
        int[] want = {2, 3, 4, 0, 1, 2, 3, 4};
        for (int post = 0; post < 8; post++) {
            check.due("size of post " + post, loom.size(7, post), want[post]);
        }
        check.due("ways", loom.ways(7), 127);
        check.due("set", loom.set(7, 0, 0, 0, 1), true);
        check.due("lay again", loom.lay(7, 127, 0_43210432), true);
        check.due("numbers are 0 again", loom.get(7, 0, 0, 0), 0);
        check.due("others stay", loom.size(6, 0), 0);
    }

    private static void setAndGet(Check check) {
        int[] given = {0, 1, 6, 7, 13, 14, -1, -7, -8, Integer.MIN_VALUE, Integer.MAX_VALUE};
        int[] want = {0, 1, 6, 0, 6, 0, 6, 0, 6, Math.floorMod(Integer.MIN_VALUE, 7), Integer.MAX_VALUE % 7};
        SpanLoom loom = new SpanLoom(7, 3);
        loom.lay(2, 0, 0_432);
        for (int k = 0; k < given.length; k++) {
            check.due("set", loom.set(2, 1, 3, 2, given[k]), true);
            check.due("get after set of " + given[k], loom.get(2, 1, 3, 2), want[k]);
        }
        for (int row = -1; row <= 4; row++) {
            for (int column = -1; column <= 4; column++) {
                boolean there = row >= 0 && row < 3 && column >= 0 && column < 2;
                check.due("set at the rim", loom.set(2, 0, row, column, 1 + row + 2 * column), there);
                int v = there ? 1 + row + 2 * column : -1;
                check.due("get at the rim", loom.get(2, 0, row, column), v);
            }
        }
        check.due("the other table stays", loom.get(2, 1, 0, 0), 0);
        check.due("set of arrow 2", loom.set(2, 2, 0, 0, 1), false);
        check.due("set of arrow -1", loom.set(2, -1, 0, 0, 1), false);
        check.due("get of arrow 2", loom.get(2, 2, 0, 0), -1);
        check.due("get of arrow -1", loom.get(2, -1, 0, 0), -1);
    }

    private static void tableSizesFollowWays(Check check) {
        SpanLoom loom = new SpanLoom(5, 2);
        loom.lay(0, 0, 0_31);
        check.due("right: rows of post 1", loom.set(0, 0, 2, 0, 1), true);
        check.due("right: columns of post 0", loom.set(0, 0, 0, 1, 1), false);
        loom.lay(0, 1, 0_31);
        check.due("left: rows of post 0", loom.set(0, 0, 1, 0, 1), false);
        check.due("left: columns of post 1", loom.set(0, 0, 0, 2, 1), true);
        check.due("one post has no table", new SpanLoom(5, 1).get(0, 0, 0, 0), -1);
    }
}
