import java.io.IOException;

/**
 * Promises 7 to 10 (span, beside, mix, turn): a test for each sentence that names an edge, called by its place and
 * its words.
 */
public final class EdgesOfMakingTest {
    private final Check check;

    private EdgesOfMakingTest(Check check) {
        this.check = check;
    }

    public static void main(String[] args) throws IOException {
        EdgesOfMakingTest test = new EdgesOfMakingTest(new Check(Document.given(args)));
        test.check.run(
                test::spanReplaces, test::spanNoSuchLaying, test::spanNoSuchPosts, test::spanBackwards,
                test::spanNoSuchWays, test::besideIntoOneOfThem, test::besideNoSuchLaying, test::besideOtherWays,
                test::besideTooGreatSize, test::mixWithoutArrows, test::mixNoSuchLaying, test::mixNoSuchPost,
                test::mixNoSuchNumber, test::mixWithItself, test::mixByNoSuchNumber, test::mixAtTheEnds,
                test::turnIntoItself, test::turnLeavesTheRest, test::turnAnswersTheSize, test::turnNoSuchLaying,
                test::turnNoSuchPost, test::turnOfOnePost, test::turnNeitherInNorOut, test::turnTooGreatSize);
        test.check.end();
    }

    private void spanReplaces() {
        check.sentence("Promise 7", "A LAYING becomes the SPAN from a to b, with ARROWS' ways: true");
        SpanLoom loom = Looms.full();
        check.due("a span instead of a full laying", loom.span(4, 3, 0, 1), true);
        check.due("ways", loom.ways(4), 3);
        check.due("size of post 0", loom.size(4, 0), 1);
        check.due("size of post 1", loom.size(4, 1), 1);
        check.due("size of post 2", loom.size(4, 2), 0);
        Tables.same(check, loom, 4, 0, new int[][] {{1}});
        loom.beside(4, 4, 4);
        Tables.same(check, loom, 4, 0, new int[][] {{1, 0}, {0, 1}});
        SpanLoom single = new SpanLoom(2, 1);
        check.due("a span of the only post", single.span(7, 0, 0, 0), true);
        check.due("its size", single.size(7, 0), 1);
    }

    private void spanNoSuchLaying() {
        check.sentence("Promise 7", "false if there is none such");
        SpanLoom loom = new SpanLoom(5, 3);
        check.due("laying 0", loom.span(0, 0, 0, 2), true);
        check.due("laying 7", loom.span(7, 0, 0, 2), true);
        for (int l : Looms.outside(8)) {
            check.due("laying " + l, loom.span(l, 0, 0, 2), false);
        }
    }

    private void spanNoSuchPosts() {
        check.sentence("Promise 7", "false if there is none such");
        for (int n = 1; n <= 8; n++) {
            SpanLoom loom = new SpanLoom(5, n);
            check.due("all " + n + " posts", loom.span(0, 0, 0, n - 1), true);
            check.due("the last of " + n, loom.span(0, 0, n - 1, n - 1), true);
            for (int post : Looms.outside(n)) {
                check.due("from " + post, loom.span(0, 0, post, n - 1), false);
                check.due("to " + post, loom.span(0, 0, 0, post), false);
                check.due("from and to " + post, loom.span(0, 0, post, post), false);
            }
        }
    }

    private void spanBackwards() {
        check.sentence("Promise 7", "false if there is none such");
        SpanLoom loom = new SpanLoom(5, 8);
        for (int a = 0; a < 8; a++) {
            for (int b = 0; b < 8; b++) {
                check.due("from " + a + " to " + b, loom.span(0, 0, a, b), a <= b);
                check.due("from " + a + " to " + b + ", all to the left", loom.span(0, 127, a, b), a <= b);
            }
        }
    }

    private void spanNoSuchWays() {
        check.sentence("Promise 7", "or no such ways");
        for (int n = 1; n <= 8; n++) {
            SpanLoom loom = new SpanLoom(5, n);
            int all = (1 << (n - 1)) - 1;
            check.due("all to the left", loom.span(0, all, 0, 0), true);
            check.due("its ways", loom.ways(0), all);
            for (int bit = n - 1; bit < 32; bit++) {
                check.due("bit " + bit + " of " + n + " posts", loom.span(0, 1 << bit, 0, 0), false);
            }
            check.due("ways -1", loom.span(0, -1, 0, 0), false);
        }
    }

    private void besideIntoOneOfThem() {
        check.sentence("Promise 8", "A LAYING becomes a and b SIDE BY SIDE: true");
        int[][] calls = {{0, 1, 0}, {0, 1, 1}, {1, 0, 0}, {1, 0, 1}, {0, 0, 0}, {0, 0, 1}};
        int[][][] want = {{{5, 0}, {0, 3}}, {{5, 0}, {0, 3}}, {{3, 0}, {0, 5}}, {{3, 0}, {0, 5}},
            {{5, 0}, {0, 5}}, {{5, 0}, {0, 5}}};
        for (int k = 0; k < calls.length; k++) {
            SpanLoom loom = new SpanLoom(7, 2);
            loom.span(0, 0, 0, 1);
            loom.set(0, 0, 0, 0, 5);
            loom.span(1, 0, 0, 1);
            loom.set(1, 0, 0, 0, 3);
            check.due("beside " + k, loom.beside(calls[k][0], calls[k][1], calls[k][2]), true);
            Tables.same(check, loom, calls[k][2], 0, want[k]);
        }
    }

    private void besideNoSuchLaying() {
        check.sentence("Promise 8", "false if there is none such");
        SpanLoom loom = new SpanLoom(5, 2);
        check.due("layings 0 and 7", loom.beside(0, 7, 7), true);
        check.due("layings 7 and 0", loom.beside(7, 0, 0), true);
        for (int l : Looms.outside(8)) {
            check.due("first " + l, loom.beside(l, 0, 1), false);
            check.due("second " + l, loom.beside(0, l, 1), false);
            check.due("both " + l, loom.beside(l, l, 1), false);
            check.due("into " + l, loom.beside(0, 1, l), false);
            check.due("all " + l, loom.beside(l, l, l), false);
        }
    }

    private void besideOtherWays() {
        check.sentence("Promise 8", "their ARROWS' ways are not the same");
        SpanLoom loom = new SpanLoom(5, 8);
        loom.lay(1, 127, 0);
        for (int arrow = 0; arrow < 7; arrow++) {
            loom.lay(2, 1 << arrow, 0);
            loom.lay(3, 127 ^ 1 << arrow, 0);
            check.due("arrow " + arrow + " of the second one", loom.beside(0, 2, 5), false);
            check.due("arrow " + arrow + " of the first one", loom.beside(2, 0, 5), false);
            check.due("arrow " + arrow + " of the second one to the right", loom.beside(1, 3, 5), false);
        }
        check.due("all to the left", loom.beside(1, 1, 5), true);
        check.due("into one that had other ways", loom.beside(0, 0, 1), true);
        check.due("its ways then", loom.ways(1), 0);
    }

    private void besideTooGreatSize() {
        check.sentence("Promise 8", "or a SIZE would be above 4");
        for (int n = 1; n <= 8; n++) {
            SpanLoom loom = new SpanLoom(5, n);
            for (int post = 0; post < n; post++) {
                for (int size = 0; size <= 4; size++) {
                    loom.lay(0, 0, size << 3 * post);
                    loom.lay(1, 0, 4 - size << 3 * post);
                    check.due("a size of 4 at " + post, loom.beside(0, 1, 2), true);
                    check.due("it", loom.size(2, post), 4);
                    if (size > 0) {
                        loom.lay(1, 0, 5 - size << 3 * post);
                        check.due("a size of 5 at " + post, loom.beside(0, 1, 2), false);
                    }
                }
            }
        }
        SpanLoom loom = new SpanLoom(5, 1);
        loom.lay(0, 0, 4);
        check.due("a size of 8", loom.beside(0, 0, 0), false);
    }

    private void mixWithoutArrows() {
        check.sentence("Promise 9", "It is MIXED: true");
        SpanLoom loom = new SpanLoom(5, 1);
        loom.lay(0, 0, 2);
        check.due("of one post", loom.mix(0, 0, 0, 1, 4), true);
        check.due("the size stays", loom.size(0, 0), 2);
        SpanLoom pair = new SpanLoom(5, 2);
        pair.lay(0, 0, 0_02);
        check.due("with a table without rows", pair.mix(0, 0, 1, 0, 4), true);
        pair.lay(0, 0, 0_20);
        check.due("with a table without columns", pair.mix(0, 1, 1, 0, 4), true);
    }

    private void mixNoSuchLaying() {
        check.sentence("Promise 9", "false if there is no such LAYING");
        SpanLoom loom = Looms.full();
        check.due("laying 0", loom.mix(0, 0, 0, 1, 1), true);
        check.due("laying 7", loom.mix(7, 0, 0, 1, 1), true);
        for (int l : Looms.outside(8)) {
            check.due("laying " + l, loom.mix(l, 0, 0, 1, 1), false);
        }
    }

    private void mixNoSuchPost() {
        check.sentence("Promise 9", "POST, i or j");
        for (int n = 1; n <= 8; n++) {
            SpanLoom loom = new SpanLoom(5, n);
            loom.lay(0, 0, 0_22222222 >> 3 * (8 - n));
            check.due("the first post", loom.mix(0, 0, 0, 1, 1), true);
            check.due("the last post", loom.mix(0, n - 1, 0, 1, 1), true);
            for (int post : Looms.outside(n)) {
                check.due("post " + post + " of " + n, loom.mix(0, post, 0, 1, 1), false);
            }
        }
    }

    private void mixNoSuchNumber() {
        check.sentence("Promise 9", "i or j (0 .. its SIZE less 1)");
        for (int size = 0; size <= 4; size++) {
            SpanLoom loom = new SpanLoom(5, 3);
            loom.lay(0, 0, 0_404 | size << 3);
            for (int i = -1; i <= 5; i++) {
                for (int j = -1; j <= 5; j++) {
                    boolean there = i >= 0 && i < size && j >= 0 && j < size && i != j;
                    check.due("mix by " + i + ", " + j + " of " + size, loom.mix(0, 1, i, j, 1), there);
                }
            }
            for (int far : Looms.outside(size)) {
                check.due("mix by i " + far, loom.mix(0, 1, far, 0, 1), false);
                check.due("mix by j " + far, loom.mix(0, 1, 0, far, 1), false);
            }
        }
    }

    private void mixWithItself() {
        check.sentence("Promise 9", "i is j");
        SpanLoom loom = Looms.full();
        for (int i = 0; i < 4; i++) {
            for (int c = 0; c < 5; c++) {
                check.due("i and j " + i + " by " + c, loom.mix(4, 1, i, i, c), false);
            }
        }
    }

    private void mixByNoSuchNumber() {
        check.sentence("Promise 9", "or c is not 0 .. P - 1");
        int[] primes = {2, 3, 5, 7, 11, 13};
        for (int p : primes) {
            SpanLoom loom = new SpanLoom(p, 2);
            loom.lay(0, 0, 0_22);
            Tables.fill(loom, 0, 0, new int[][] {{1, 0}, {0, 1}});
            check.due("by 0", loom.mix(0, 1, 0, 1, 0), true);
            Tables.same(check, loom, 0, 0, new int[][] {{1, 0}, {0, 1}});
            check.due("by 0 at the first post", loom.mix(0, 0, 0, 1, 0), true);
            Tables.same(check, loom, 0, 0, new int[][] {{1, 0}, {0, 1}});
            check.due("by P - 1", loom.mix(0, 1, 0, 1, p - 1), true);
            Tables.same(check, loom, 0, 0, new int[][] {{1, p - 1}, {0, 1}});
            for (int c : Looms.outside(p)) {
                check.due("by " + c, loom.mix(0, 1, 0, 1, c), false);
            }
        }
    }

    /** At the first and the last post there is one arrow, which may point in or out. */
    private void mixAtTheEnds() {
        check.sentence("Terms 2", "TABLES of ARROWS that point there have row i c times row j more; "
                + "of those that come from there column j is c times column i less.");
        int[][] given = {{1, 2}, {3, 4}};
        int[][] rows = {{1 + 2 * 3, 2 + 2 * 4}, {3, 4}};
        int[][] columns = {{1, 2 - 2 * 1 + 11}, {3, 4 - 2 * 3 + 11}};
        for (int left = 0; left <= 1; left++) {
            for (int post = 0; post <= 1; post++) {
                SpanLoom loom = new SpanLoom(11, 2);
                loom.lay(0, left, 0_22);
                Tables.fill(loom, 0, 0, given);
                check.due("mix", loom.mix(0, post, 0, 1, 2), true);
                int[][] want = left == post ? columns : rows;
                for (int cell = 0; cell < 4; cell++) {
                    int v = want[cell / 2][cell % 2] % 11;
                    check.due("post " + post + " with ways " + left, loom.get(0, 0, cell / 2, cell % 2), v);
                }
            }
        }
    }

    private void turnIntoItself() {
        check.sentence("Promise 10", "LAYING to becomes l TURNED at a POST: its SIZE there.");
        SpanLoom loom = new SpanLoom(7, 3);
        loom.span(0, 2, 0, 2);
        check.due("into itself", loom.turn(0, 1, 0), 1);
        check.due("ways", loom.ways(0), 1);
        Tables.same(check, loom, 0, 0, new int[][] {{6}});
        Tables.same(check, loom, 0, 1, new int[][] {{1}});
        check.due("into itself back", loom.turn(0, 1, 0), 1);
        check.due("ways", loom.ways(0), 2);
    }

    private void turnLeavesTheRest() {
        check.sentence("Promise 10", "LAYING to becomes l TURNED at a POST");
        SpanLoom loom = new SpanLoom(7, 4);
        loom.lay(0, 2, 0_2222);
        Tables.fill(loom, 0, 2, new int[][] {{1, 2}, {3, 4}});
        loom.lay(5, 7, 0_4444);
        for (int cell = 0; cell < 48; cell++) {
            loom.set(5, cell / 16, cell / 4 % 4, cell % 4, 6);
        }
        String[] before = Looms.seen(loom).split("\n");
        check.due("turn", loom.turn(0, 1, 5), 4);
        check.due("l itself stays", Looms.seen(loom).split("\n")[0].equals(before[0]), true);
        Tables.same(check, loom, 5, 2, new int[][] {{1, 2}, {3, 4}});
        Tables.same(check, loom, 5, 0, new int[][] {{1, 0, 0, 0}, {0, 1, 0, 0}});
        int[] sizes = {2, 4, 2, 2};
        for (int post = 0; post < 4; post++) {
            check.due("size of post " + post, loom.size(5, post), sizes[post]);
        }
    }

    private void turnAnswersTheSize() {
        check.sentence("Promise 10", "its SIZE there");
        SpanLoom loom = new SpanLoom(7, 2);
        for (int beside = 0; beside <= 4; beside++) {
            loom.lay(0, 0, beside);
            check.due("in, from 0 to " + beside, loom.turn(0, 1, 1), beside);
            check.due("its size", loom.size(1, 1), beside);
            check.due("back to 0", loom.turn(1, 1, 1), 0);
            check.due("its size", loom.size(1, 1), 0);
        }
    }

    private void turnNoSuchLaying() {
        check.sentence("Promise 10", "NONE if there is none such");
        SpanLoom loom = Looms.full();
        check.due("from 5 to 7", loom.turn(5, 1, 7) >= 0, true);
        check.due("from 7 to 0", loom.turn(7, 1, 0) >= 0, true);
        for (int l : Looms.outside(8)) {
            check.due("from " + l, loom.turn(l, 1, 0), -1);
            check.due("to " + l, loom.turn(5, 1, l), -1);
            check.due("from and to " + l, loom.turn(l, 1, l), -1);
        }
    }

    private void turnNoSuchPost() {
        check.sentence("Promise 10", "NONE if there is none such");
        for (int n = 1; n <= 8; n++) {
            SpanLoom loom = new SpanLoom(5, n);
            check.due("the first post of " + n, loom.turn(0, 0, 1), n == 1 ? -1 : 0);
            check.due("the last post of " + n, loom.turn(0, n - 1, 1), n == 1 ? -1 : 0);
            for (int post : Looms.outside(n)) {
                check.due("post " + post + " of " + n, loom.turn(0, post, 1), -1);
            }
        }
    }

    private void turnOfOnePost() {
        check.sentence("Promise 10", "N is 1");
        SpanLoom loom = new SpanLoom(5, 1);
        for (int size = 0; size <= 4; size++) {
            loom.lay(0, 0, size);
            check.due("a size of " + size, loom.turn(0, 0, 0), -1);
            check.due("it stays", loom.size(0, 0), size);
        }
    }

    private void turnNeitherInNorOut() {
        check.sentence("Promise 10", "its ARROWS point neither all in nor all out");
        for (int ways = 0; ways < 128; ways++) {
            SpanLoom loom = new SpanLoom(5, 8);
            loom.lay(0, ways, 0);
            for (int post = 0; post < 8; post++) {
                boolean end = post == 0 || post == 7;
                boolean turning = end || (ways >> post & 1) != (ways >> post - 1 & 1);
                check.due("ways " + ways + " at " + post, loom.turn(0, post, 1), turning ? 0 : -1);
            }
        }
    }

    private void turnTooGreatSize() {
        check.sentence("Promise 10", "or that SIZE would be above 4");
        SpanLoom loom = new SpanLoom(5, 3);
        for (int ways = 1; ways <= 2; ways++) {
            for (int left = 0; left <= 4; left++) {
                for (int right = 0; right <= 4; right++) {
                    loom.lay(0, ways, left | right << 6);
                    int want = left + right > 4 ? -1 : left + right;
                    check.due("a size of " + (left + right), loom.turn(0, 1, 1), want);
                }
            }
            loom.lay(0, ways, 0_414);
            loom.set(0, 0, 0, 0, 1);
            check.due("a size of 7", loom.turn(0, 1, 1), -1);
            loom.lay(0, ways, 0_411);
            loom.set(0, 0, 0, 0, 1);
            check.due("a size of 4 of five numbers", loom.turn(0, 1, 1), 4);
        }
    }
}
