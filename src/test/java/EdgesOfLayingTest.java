import java.io.IOException;

/**
 * Promises 1 to 6 and 20 (a new object, lay, set, get, size, ways, count): a test for each sentence that names an
 * edge, called by its place and its words.
 */
public final class EdgesOfLayingTest {
    private static final int[] PRIMES = {2, 3, 5, 7, 11, 13};
    private static final int LEAST = Integer.MIN_VALUE;
    private static final int GREATEST = Integer.MAX_VALUE;

    private final Check check;

    private EdgesOfLayingTest(Check check) {
        this.check = check;
    }

    public static void main(String[] args) throws IOException {
        EdgesOfLayingTest test = new EdgesOfLayingTest(new Check(Document.given(args)));
        test.check.run(
                test::primes, test::otherPrimes, test::primesBelowTwo, test::posts, test::otherPosts, test::layWays,
                test::laySizes, test::layEmptiesTables, test::layNoSuchLaying, test::layWaysOfNoArrow,
                test::layTooGreatSize, test::laySizesOfNoPost, test::laySizesBelowNothing, test::setWrapsAround,
                test::setNoSuchLaying, test::setNoSuchArrow, test::setNoSuchRow, test::setNoSuchColumn,
                test::getOfAllCells, test::getNoSuchLaying, test::getNoSuchArrow, test::getNoSuchRow,
                test::getNoSuchColumn, test::sizeNoSuchLaying, test::sizeNoSuchPost, test::waysOfAll,
                test::waysNoSuchLaying, test::counts, test::countOfOthers);
        test.check.end();
    }

    private void primes() {
        check.sentence("Promise 1", "P: 2, 3, 5, 7, 11 or 13");
        for (int p : PRIMES) {
            SpanLoom loom = new SpanLoom(p, 2);
            check.due("P of " + p, loom.count(0), p);
            loom.span(0, 0, 0, 1);
            loom.set(0, 0, 0, 0, p - 1);
            check.due("the greatest number by " + p, loom.get(0, 0, 0, 0), p - 1);
            loom.set(0, 0, 0, 0, p);
            check.due("what wraps around by " + p, loom.get(0, 0, 0, 0), 0);
        }
    }

    private void otherPrimes() {
        check.sentence("Promise 1", "others: the greatest of these that isn't above it");
        int[] given = {4, 6, 8, 9, 10, 12, 14, 15, 16, 17, 19, 23, 257, GREATEST};
        int[] want = {3, 5, 7, 7, 7, 11, 13, 13, 13, 13, 13, 13, 13, 13};
        for (int k = 0; k < given.length; k++) {
            SpanLoom loom = new SpanLoom(given[k], 2);
            check.due("P of " + given[k], loom.count(0), want[k]);
            loom.span(0, 0, 0, 1);
            loom.set(0, 0, 0, 0, -1);
            check.due("the greatest number then", loom.get(0, 0, 0, 0), want[k] - 1);
        }
    }

    private void primesBelowTwo() {
        check.sentence("Promise 1", "2 below 2");
        int[] given = {1, 0, -1, -2, -3, -13, LEAST};
        for (int p : given) {
            check.due("P of " + p, new SpanLoom(p, 2).count(0), 2);
        }
    }

    private void posts() {
        check.sentence("Promise 1", "N (1 .. 8");
        for (int n = 1; n <= 8; n++) {
            SpanLoom loom = new SpanLoom(2, n);
            check.due("N of " + n, loom.count(1), n);
            check.due("its last post", loom.size(0, n - 1), 0);
            check.due("no further one", loom.size(0, n), -1);
        }
    }

    private void otherPosts() {
        check.sentence("Promise 1", "others count as the nearest");
        int[] tooFew = {0, -1, -8, LEAST};
        for (int n : tooFew) {
            check.due("N of " + n, new SpanLoom(2, n).count(1), 1);
        }
        int[] tooMany = {9, 10, 16, 256, GREATEST};
        for (int n : tooMany) {
            SpanLoom loom = new SpanLoom(2, n);
            check.due("N of " + n, loom.count(1), 8);
            check.due("its last post", loom.size(0, 7), 0);
            check.due("no further one", loom.size(0, 8), -1);
        }
    }

    private void layWays() {
        check.sentence("Promise 2", "bit k of ways is 1: ARROW k is to the LEFT");
        for (int ways = 0; ways < 128; ways++) {
            SpanLoom loom = new SpanLoom(2, 8);
            check.due("lay with ways " + ways, loom.lay(0, ways, 0_21212121), true);
            check.due("its ways", loom.ways(0), ways);
            for (int arrow = 0; arrow < 7; arrow++) {
                boolean toPostOfTwo = (ways >> arrow & 1) == (arrow & 1);
                check.due("second row of " + arrow, loom.get(0, arrow, 1, 0), toPostOfTwo ? 0 : -1);
            }
        }
    }

    private void laySizes() {
        check.sentence("Promise 2", "that of POST k is sizes by 8 to the power of k, modulo 8");
        SpanLoom loom = new SpanLoom(2, 8);
        check.due("lay at all posts", loom.lay(0, 0, 0_43210432), true);
        int[] want = {2, 3, 4, 0, 1, 2, 3, 4};
        for (int post = 0; post < 8; post++) {
            check.due("size of post " + post, loom.size(0, post), want[post]);
        }
        check.due("the greatest sizes", loom.lay(0, 0, 0_44444444), true);
        check.due("the last one of them", loom.size(0, 7), 4);
        check.due("no sizes", loom.lay(0, 0, 0), true);
        check.due("the last one of them", loom.size(0, 7), 0);
    }

    private void layEmptiesTables() {
        check.sentence("Promise 2", "all numbers of TABLES 0: true");
        SpanLoom loom = new SpanLoom(3, 2);
        loom.lay(0, 0, 0_44);
        for (int cell = 0; cell < 16; cell++) {
            loom.set(0, 0, cell / 4, cell % 4, 2);
        }
        check.due("the same again", loom.lay(0, 0, 0_44), true);
        Tables.same(check, loom, 0, 0, new int[4][4]);
        loom.set(0, 0, 3, 3, 2);
        check.due("smaller", loom.lay(0, 0, 0_11), true);
        check.due("and greater again", loom.lay(0, 0, 0_44), true);
        Tables.same(check, loom, 0, 0, new int[4][4]);
    }

    private void layNoSuchLaying() {
        check.sentence("Promise 2", "False if there is none such");
        SpanLoom loom = new SpanLoom(2, 2);
        check.due("laying 0", loom.lay(0, 0, 1), true);
        check.due("laying 7", loom.lay(7, 0, 1), true);
        for (int l : Looms.outside(8)) {
            check.due("laying " + l, loom.lay(l, 0, 1), false);
        }
    }

    private void layWaysOfNoArrow() {
        check.sentence("Promise 2", "ways has bits for no ARROW");
        for (int n = 1; n <= 8; n++) {
            SpanLoom loom = new SpanLoom(2, n);
            int all = (1 << (n - 1)) - 1;
            check.due("all bits of " + n + " posts", loom.lay(0, all, 0), true);
            for (int bit = n - 1; bit < 32; bit++) {
                check.due("bit " + bit + " alone", loom.lay(0, 1 << bit, 0), false);
                check.due("bit " + bit + " with all others", loom.lay(0, 1 << bit | all, 0), false);
            }
            check.due("ways -1", loom.lay(0, -1, 0), false);
            check.due("ways stay", loom.ways(0), all);
        }
    }

    private void layTooGreatSize() {
        check.sentence("Promise 2", "a SIZE is above 4");
        for (int n = 1; n <= 8; n++) {
            SpanLoom loom = new SpanLoom(2, n);
            for (int post = 0; post < n; post++) {
                check.due("a size of 4 at " + post, loom.lay(0, 0, 4 << 3 * post), true);
                for (int size = 5; size <= 7; size++) {
                    check.due("a size of " + size + " at " + post, loom.lay(0, 0, size << 3 * post), false);
                }
                check.due("the size at " + post, loom.size(0, post), 4);
            }
        }
    }

    private void laySizesOfNoPost() {
        check.sentence("Promise 2", "sizes has more for no POST");
        for (int n = 1; n <= 8; n++) {
            SpanLoom loom = new SpanLoom(2, n);
            int full = 0_44444444 >> 3 * (8 - n);
            check.due("sizes of all posts", loom.lay(0, 0, full), true);
            for (int bit = 3 * n; bit < 31; bit++) {
                check.due("bit " + bit + " alone", loom.lay(0, 0, 1 << bit), false);
                check.due("bit " + bit + " with all posts", loom.lay(0, 0, 1 << bit | full), false);
            }
            check.due("the greatest number", loom.lay(0, 0, GREATEST), false);
            check.due("the sizes stay", loom.size(0, n - 1), 4);
        }
    }

    /** By Java's own division no rest of these is above 4, so that their sign alone has to refuse them. */
    private void laySizesBelowNothing() {
        check.sentence("Promise 2", "or is below 0");
        int[] given = {-1, -8, -7, LEAST, LEAST + 1, LEAST + 0_111, -0_444};
        for (int n = 1; n <= 8; n++) {
            SpanLoom loom = new SpanLoom(2, n);
            for (int sizes : given) {
                check.due("sizes of " + sizes, loom.lay(0, 0, sizes), false);
            }
        }
    }

    private void setWrapsAround() {
        check.sentence("Promise 3", "A number of a TABLE becomes v modulo P (0 .. P - 1): true");
        int[] given = {0, 1, 6, 7, 8, 13, 14, -1, -6, -7, -8, LEAST, GREATEST};
        int[] want = {0, 1, 6, 0, 1, 6, 0, 6, 1, 0, 6, 5, 1};
        SpanLoom loom = new SpanLoom(7, 2);
        loom.lay(0, 0, 0_44);
        for (int k = 0; k < given.length; k++) {
            check.due("set to " + given[k], loom.set(0, 0, 3, 3, given[k]), true);
            check.due("the number after " + given[k], loom.get(0, 0, 3, 3), want[k]);
        }
        SpanLoom least = new SpanLoom(2, 2);
        least.span(0, 0, 0, 1);
        least.set(0, 0, 0, 0, -1);
        check.due("-1 by 2", least.get(0, 0, 0, 0), 1);
        least.set(0, 0, 0, 0, LEAST);
        check.due("the least int by 2", least.get(0, 0, 0, 0), 0);
    }

    private void setNoSuchLaying() {
        check.sentence("Promise 3", "false if there is no such LAYING");
        SpanLoom loom = Looms.full();
        check.due("laying 0", loom.set(0, 0, 0, 0, 1), true);
        check.due("laying 7", loom.set(7, 0, 0, 0, 1), true);
        for (int l : Looms.outside(8)) {
            check.due("laying " + l, loom.set(l, 0, 0, 0, 1), false);
        }
    }

    private void setNoSuchArrow() {
        check.sentence("Promise 3", "ARROW, row, or column");
        SpanLoom loom = new SpanLoom(5, 3);
        loom.lay(0, 1, 0_444);
        check.due("the first arrow", loom.set(0, 0, 0, 0, 1), true);
        check.due("the last arrow", loom.set(0, 1, 0, 0, 1), true);
        for (int arrow : Looms.outside(2)) {
            check.due("arrow " + arrow, loom.set(0, arrow, 0, 0, 1), false);
        }
        SpanLoom longest = new SpanLoom(5, 8);
        longest.lay(0, 0, 0_44444444);
        check.due("arrow 6", longest.set(0, 6, 3, 3, 1), true);
        check.due("arrow 7", longest.set(0, 7, 0, 0, 1), false);
        SpanLoom single = new SpanLoom(5, 1);
        single.lay(0, 0, 4);
        check.due("one post has none", single.set(0, 0, 0, 0, 1), false);
    }

    private void setNoSuchRow() {
        check.sentence("Promise 3", "ARROW, row, or column");
        SpanLoom loom = new SpanLoom(5, 2);
        for (int rows = 0; rows <= 4; rows++) {
            for (int left = 0; left <= 1; left++) {
                loom.lay(0, left, left == 0 ? rows << 3 | 4 : rows | 4 << 3);
                for (int row = 0; row < rows; row++) {
                    check.due("row " + row + " of " + rows, loom.set(0, 0, row, 3, 1), true);
                }
                for (int row : Looms.outside(rows)) {
                    check.due("row " + row + " of " + rows, loom.set(0, 0, row, 0, 1), false);
                }
            }
        }
    }

    private void setNoSuchColumn() {
        check.sentence("Promise 3", "ARROW, row, or column");
        SpanLoom loom = new SpanLoom(5, 2);
        for (int columns = 0; columns <= 4; columns++) {
            for (int left = 0; left <= 1; left++) {
                loom.lay(0, left, left == 0 ? columns | 4 << 3 : columns << 3 | 4);
                for (int column = 0; column < columns; column++) {
                    check.due("column " + column + " of " + columns, loom.set(0, 0, 3, column, 1), true);
                }
                for (int column : Looms.outside(columns)) {
                    check.due("column " + column + " of " + columns, loom.set(0, 0, 0, column, 1), false);
                }
            }
        }
    }

    private void getOfAllCells() {
        check.sentence("Promise 4", "It; NONE if there is none such.");
        SpanLoom loom = new SpanLoom(13, 8);
        loom.lay(7, 42, 0_44444444);
        for (int cell = 0; cell < 112; cell++) {
            loom.set(7, cell / 16, cell / 4 % 4, cell % 4, cell * 5);
        }
        for (int cell = 0; cell < 112; cell++) {
            check.due("cell " + cell, loom.get(7, cell / 16, cell / 4 % 4, cell % 4), cell * 5 % 13);
        }
        for (int l = 0; l < 8; l++) {
            loom.lay(l, 0, 0_11);
            loom.set(l, 0, 0, 0, l + 1);
        }
        for (int l = 0; l < 8; l++) {
            check.due("laying " + l, loom.get(l, 0, 0, 0), l + 1);
        }
    }

    private void getNoSuchLaying() {
        check.sentence("Promise 4", "NONE if there is none such");
        SpanLoom loom = Looms.full();
        for (int l : Looms.outside(8)) {
            check.due("laying " + l, loom.get(l, 0, 0, 0), -1);
        }
    }

    private void getNoSuchArrow() {
        check.sentence("Promise 4", "NONE if there is none such");
        SpanLoom loom = Looms.full();
        for (int arrow : Looms.outside(2)) {
            check.due("arrow " + arrow, loom.get(4, arrow, 0, 0), -1);
        }
        SpanLoom longest = new SpanLoom(5, 8);
        longest.lay(0, 0, 0_44444444);
        check.due("arrow 7", longest.get(0, 7, 0, 0), -1);
        SpanLoom single = new SpanLoom(5, 1);
        single.lay(0, 0, 4);
        check.due("one post has none", single.get(0, 0, 0, 0), -1);
    }

    private void getNoSuchRow() {
        check.sentence("Promise 4", "NONE if there is none such");
        SpanLoom loom = new SpanLoom(5, 2);
        for (int rows = 0; rows <= 4; rows++) {
            loom.lay(0, 0, rows << 3 | 4);
            for (int row : Looms.outside(rows)) {
                check.due("row " + row + " of " + rows, loom.get(0, 0, row, 0), -1);
            }
        }
    }

    private void getNoSuchColumn() {
        check.sentence("Promise 4", "NONE if there is none such");
        SpanLoom loom = new SpanLoom(5, 2);
        for (int columns = 0; columns <= 4; columns++) {
            loom.lay(0, 0, columns | 4 << 3);
            for (int column : Looms.outside(columns)) {
                check.due("column " + column + " of " + columns, loom.get(0, 0, 0, column), -1);
            }
        }
    }

    private void sizeNoSuchLaying() {
        check.sentence("Promise 5", "NONE if there is none such");
        SpanLoom loom = Looms.full();
        check.due("laying 0", loom.size(0, 0), 2);
        check.due("laying 7", loom.size(7, 0), 4);
        for (int l : Looms.outside(8)) {
            check.due("laying " + l, loom.size(l, 0), -1);
        }
    }

    private void sizeNoSuchPost() {
        check.sentence("Promise 5", "The SIZE at a POST; NONE if there is none such.");
        for (int n = 1; n <= 8; n++) {
            SpanLoom loom = new SpanLoom(5, n);
            loom.lay(0, 0, 1 | 3 << 3 * (n - 1));
            check.due("post 0", loom.size(0, 0), n == 1 ? 3 : 1);
            check.due("the last post", loom.size(0, n - 1), 3);
            for (int post : Looms.outside(n)) {
                check.due("post " + post + " of " + n, loom.size(0, post), -1);
            }
        }
    }

    private void waysOfAll() {
        check.sentence("Promise 6", "ARROWS' ways");
        SpanLoom loom = new SpanLoom(5, 8);
        for (int l = 0; l < 8; l++) {
            loom.lay(l, 127 - l, 0);
        }
        for (int l = 0; l < 8; l++) {
            check.due("ways of laying " + l, loom.ways(l), 127 - l);
        }
        check.due("ways of one post", new SpanLoom(5, 1).ways(0), 0);
    }

    private void waysNoSuchLaying() {
        check.sentence("Promise 6", "NONE if there is no such LAYING");
        SpanLoom loom = Looms.full();
        check.due("laying 7", loom.ways(7), 3);
        for (int l : Looms.outside(8)) {
            check.due("laying " + l, loom.ways(l), -1);
        }
    }

    private void counts() {
        check.sentence("Promise 20", "0 P, 1 N.");
        SpanLoom least = new SpanLoom(2, 1);
        check.due("the least P", least.count(0), 2);
        check.due("the least N", least.count(1), 1);
        SpanLoom greatest = new SpanLoom(13, 8);
        check.due("the greatest P", greatest.count(0), 13);
        check.due("the greatest N", greatest.count(1), 8);
    }

    private void countOfOthers() {
        check.sentence("Promise 20", "NONE for others.");
        SpanLoom loom = Looms.full();
        for (int what : Looms.outside(2)) {
            check.due("count of " + what, loom.count(what), -1);
        }
    }
}
