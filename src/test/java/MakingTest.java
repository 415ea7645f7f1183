/** Promises 7 to 9: span, beside, mix. */
public final class MakingTest {
    public static void main(String[] args) {
        Check check = new Check();
        span(check);
        beside(check);
        besideItself(check);
        mixWhereArrowsPointIn(check);
        mixWhereArrowsComeFrom(check);
        check.end();
    }

    private static void span(Check check) {
        SpanLoom loom = new SpanLoom(5, 4);
        loom.lay(1, 0, 0_4444);
        loom.set(1, 0, 0, 0, 3);
        check.due("span", loom.span(1, 5, 1, 2), true);
        int[] sizes = {0, 1, 1, 0};
        for (int post = 0; post < 4; post++) {
            check.due("size of the span", loom.size(1, post), sizes[post]);
        }
        check.due("ways of the span", loom.ways(1), 5);
        check.due("number between", loom.get(1, 1, 0, 0), 1);
        check.due("none before", loom.get(1, 0, 0, 0), -1);
        check.due("none behind", loom.get(1, 2, 0, 0), -1);
        check.due("span of one post", loom.span(1, 0, 3, 3), true);
        check.due("its size", loom.size(1, 3), 1);
    }

    private static void beside(Check check) {
        SpanLoom loom = new SpanLoom(7, 2);
        loom.lay(0, 1, 0_21);
        loom.set(0, 0, 0, 0, 1);
        loom.set(0, 0, 0, 1, 2);
        loom.lay(1, 1, 0_13);
        for (int row = 0; row < 3; row++) {
            loom.set(1, 0, row, 0, 3 + row);
        }
        check.due("beside", loom.beside(0, 1, 2), true);
        check.due("size", loom.size(2, 0), 4);
        check.due("size", loom.size(2, 1), 3);
        check.due("ways", loom.ways(2), 1);
        int[][] want = {{1, 2, 0}, {0, 0, 3}, {0, 0, 4}, {0, 0, 5}};
        for (int row = 0; row < 4; row++) {
            for (int column = 0; column < 3; column++) {
                check.due("number at " + row + ", " + column, loom.get(2, 0, row, column), want[row][column]);
            }
        }
    }

    private static void besideItself(Check check) {
        SpanLoom loom = new SpanLoom(7, 2);
        loom.span(0, 0, 0, 1);
        loom.set(0, 0, 0, 0, 5);
        check.due("beside itself into itself", loom.beside(0, 0, 0), true);
        check.due("size", loom.size(0, 0), 2);
        check.due("first", loom.get(0, 0, 0, 0), 5);
        check.due("second", loom.get(0, 0, 1, 1), 5);
        check.due("elsewhere", loom.get(0, 0, 0, 1), 0);
        loom.span(1, 0, 1, 1);
        check.due("into the second one", loom.beside(0, 1, 1), true);
        check.due("size", loom.size(1, 1), 3);
        check.due("the first one stays", loom.size(0, 1), 2);
        check.due("number", loom.get(1, 0, 1, 1), 5);
    }

    private static void mixWhereArrowsPointIn(Check check) {
        SpanLoom loom = new SpanLoom(5, 3);
        loom.lay(0, 2, 0_122);
        Tables.fill(loom, 0, 0, new int[][] {{1, 2}, {3, 4}});
        Tables.fill(loom, 0, 1, new int[][] {{2}, {3}});
        check.due("mix", loom.mix(0, 1, 0, 1, 3), true);
        Tables.same(check, loom, 0, 0, new int[][] {{0, 4}, {3, 4}});
        Tables.same(check, loom, 0, 1, new int[][] {{1}, {3}});
    }

    private static void mixWhereArrowsComeFrom(Check check) {
        SpanLoom loom = new SpanLoom(5, 3);
        loom.lay(0, 0, 0_222);
        Tables.fill(loom, 0, 0, new int[][] {{1, 2}, {3, 4}});
        Tables.fill(loom, 0, 1, new int[][] {{1, 2}, {3, 4}});
        check.due("mix", loom.mix(0, 1, 1, 0, 2), true);
        Tables.same(check, loom, 0, 0, new int[][] {{1, 2}, {0, 3}});
        Tables.same(check, loom, 0, 1, new int[][] {{2, 2}, {0, 4}});
        check.due("mix at the first post", loom.mix(0, 0, 0, 1, 4), true);
        Tables.same(check, loom, 0, 0, new int[][] {{1, 3}, {0, 3}});
        check.due("mix by 0", loom.mix(0, 2, 0, 1, 0), true);
        Tables.same(check, loom, 0, 1, new int[][] {{2, 2}, {0, 4}});
        check.due("mix at the last post", loom.mix(0, 2, 0, 1, 1), true);
        Tables.same(check, loom, 0, 1, new int[][] {{2, 1}, {0, 4}});
    }
}
