import java.io.IOException;

/**
 * Promises 11 to 17 (maps, bends, form, spans, like, rank, far): a test for each sentence that names an edge, called
 * by its place and its words.
 */
public final class EdgesOfAskingTest {
    private final Check check;

    private EdgesOfAskingTest(Check check) {
        this.check = check;
    }

    public static void main(String[] args) throws IOException {
        EdgesOfAskingTest test = new EdgesOfAskingTest(new Check(Document.given(args)));
        test.check.run(
                test::mapsNoSuchLaying, test::mapsOtherWays, test::bendsNoSuchLaying, test::bendsOtherWays,
                test::formByTheWaysOfTheFirst, test::formNoSuchLaying, test::spansTimes, test::spansNoSuchLaying,
                test::spansNoSuchPosts, test::spansBackwards, test::likeOfNothing, test::likeNoSuchLaying,
                test::likeOtherWays, test::rankOfNothing, test::rankNoSuchLaying, test::rankNoSuchPost,
                test::rankAgainstAnArrow, test::rankOfAPostItself, test::farNoSuchLaying, test::farToTheLeft);
        test.check.end();
    }

    private void mapsNoSuchLaying() {
        check.sentence("Promise 11", "NONE if there is none such");
        SpanLoom loom = spansEverywhere(3, 0);
        check.due("of 0 to 7", loom.maps(0, 7), 1);
        check.due("of 7 to 0", loom.maps(7, 0), 1);
        for (int l : Looms.outside(8)) {
            check.due("of " + l, loom.maps(l, 0), -1);
            check.due("to " + l, loom.maps(0, l), -1);
            check.due("of and to " + l, loom.maps(l, l), -1);
        }
    }

    private void mapsOtherWays() {
        check.sentence("Promise 11", "or their ARROWS' ways are not the same");
        SpanLoom loom = new SpanLoom(2, 8);
        check.due("of nothing", loom.maps(0, 1), 0);
        for (int arrow = 0; arrow < 7; arrow++) {
            loom.lay(1, 1 << arrow, 0);
            check.due("arrow " + arrow + " of the second one", loom.maps(0, 1), -1);
            check.due("arrow " + arrow + " of the first one", loom.maps(1, 0), -1);
            check.due("arrow " + arrow + " of both", loom.maps(1, 1), 0);
        }
    }

    private void bendsNoSuchLaying() {
        check.sentence("Promise 12", "NONE likewise.");
        SpanLoom loom = spansEverywhere(3, 0);
        check.due("of 0 by 7", loom.bends(0, 7), 0);
        check.due("of 7 by 0", loom.bends(7, 0), 0);
        for (int l : Looms.outside(8)) {
            check.due("of " + l, loom.bends(l, 0), -1);
            check.due("by " + l, loom.bends(0, l), -1);
            check.due("of and by " + l, loom.bends(l, l), -1);
        }
    }

    private void bendsOtherWays() {
        check.sentence("Promise 12", "NONE likewise.");
        SpanLoom loom = new SpanLoom(2, 8);
        check.due("of nothing", loom.bends(0, 1), 0);
        for (int arrow = 0; arrow < 7; arrow++) {
            loom.lay(1, 1 << arrow, 0);
            check.due("arrow " + arrow + " of the second one", loom.bends(0, 1), -1);
            check.due("arrow " + arrow + " of the first one", loom.bends(1, 0), -1);
            check.due("arrow " + arrow + " of both", loom.bends(1, 1), 0);
        }
    }

    /** Where the ways are not the same, those of the first one count, and nothing is refused. */
    private void formByTheWaysOfTheFirst() {
        check.sentence("Promise 13", "FORM of the SIZES of a and b, by the ways of a");
        SpanLoom loom = new SpanLoom(2, 2);
        loom.lay(0, 0, 0_32);
        loom.lay(1, 1, 0_14);
        loom.lay(2, 0, 0_14);
        check.due("to the right with one to the left", loom.form(0, 1), 2 * 4 + 3 * 1 - 2 * 1);
        check.due("to the right with one to the right", loom.form(0, 2), 2 * 4 + 3 * 1 - 2 * 1);
        check.due("to the left with one to the right", loom.form(1, 0), 2 * 4 + 3 * 1 - 1 * 2);
        check.due("to the right, the other way", loom.form(2, 0), 2 * 4 + 3 * 1 - 4 * 3);
    }

    private void formNoSuchLaying() {
        check.sentence("Promise 13", "0 if there is none such");
        SpanLoom loom = spansEverywhere(3, 0);
        check.due("of 0 and 7", loom.form(0, 7), 1);
        check.due("of 7 and 0", loom.form(7, 0), 1);
        for (int l : Looms.outside(8)) {
            check.due("of " + l, loom.form(l, 0), 0);
            check.due("with " + l, loom.form(0, l), 0);
            check.due("of and with " + l, loom.form(l, l), 0);
        }
    }

    private void spansTimes() {
        check.sentence("Promise 14", "How many times the SPAN from a to b is among a LAYING's SPANS");
        for (int n = 1; n <= 8; n++) {
            SpanLoom loom = new SpanLoom(2, n);
            int ways = 0_25252 & (1 << (n - 1)) - 1;
            for (int times = 0; times <= 4; times++) {
                loom.lay(0, ways, 0);
                loom.span(1, ways, 0, n - 1);
                for (int k = 0; k < times; k++) {
                    loom.beside(0, 1, 0);
                }
                check.due("the longest " + times + " times", loom.spans(0, 0, n - 1), times);
                check.due("the first post alone", loom.spans(0, 0, 0), n == 1 ? times : 0);
                check.due("the last post alone", loom.spans(0, n - 1, n - 1), n == 1 ? times : 0);
            }
        }
    }

    private void spansNoSuchLaying() {
        check.sentence("Promise 14", "NONE if there is none such");
        SpanLoom loom = spansEverywhere(3, 1);
        check.due("of 0", loom.spans(0, 0, 2), 1);
        check.due("of 7", loom.spans(7, 0, 2), 1);
        for (int l : Looms.outside(8)) {
            check.due("of " + l, loom.spans(l, 0, 2), -1);
        }
    }

    private void spansNoSuchPosts() {
        check.sentence("Promise 14", "NONE if there is none such");
        for (int n = 1; n <= 8; n++) {
            SpanLoom loom = spansEverywhere(n, 0);
            check.due("all posts of " + n, loom.spans(0, 0, n - 1), 1);
            for (int post : Looms.outside(n)) {
                check.due("from " + post, loom.spans(0, post, n - 1), -1);
                check.due("to " + post, loom.spans(0, 0, post), -1);
                check.due("from and to " + post, loom.spans(0, post, post), -1);
            }
        }
    }

    private void spansBackwards() {
        check.sentence("Promise 14", "NONE if there is none such");
        SpanLoom loom = spansEverywhere(8, 0);
        for (int a = 0; a < 8; a++) {
            for (int b = 0; b < a; b++) {
                check.due("from " + a + " to " + b, loom.spans(0, a, b), -1);
            }
        }
    }

    private void likeOfNothing() {
        check.sentence("Promise 15", "Whether two LAYINGS are LIKE");
        SpanLoom loom = new SpanLoom(2, 2);
        check.due("nothing and nothing", loom.like(0, 7), true);
        check.due("itself", loom.like(0, 0), true);
        loom.lay(0, 0, 0_44);
        check.due("full and nothing", loom.like(0, 7), false);
        check.due("nothing and full", loom.like(7, 0), false);
        loom.lay(1, 0, 0_44);
        check.due("both full, tables of 0", loom.like(0, 1), true);
        loom.set(1, 0, 3, 0, 1);
        check.due("one number that isn't 0", loom.like(0, 1), false);
        loom.set(0, 0, 0, 3, 1);
        check.due("one number that isn't 0 in both", loom.like(0, 1), true);
        loom.span(2, 0, 0, 0);
        loom.span(3, 0, 1, 1);
        check.due("as many spans, but other ones", loom.like(2, 3), false);
        SpanLoom single = new SpanLoom(2, 1);
        single.lay(0, 0, 4);
        single.lay(1, 0, 3);
        check.due("one post of 4 and of 3", single.like(0, 1), false);
        single.lay(1, 0, 4);
        check.due("one post of 4 each", single.like(0, 1), true);
    }

    private void likeNoSuchLaying() {
        check.sentence("Promise 15", "false if there is none such");
        SpanLoom loom = new SpanLoom(2, 3);
        check.due("7 and 0", loom.like(7, 0), true);
        for (int l : Looms.outside(8)) {
            check.due("of " + l, loom.like(l, 0), false);
            check.due("with " + l, loom.like(0, l), false);
            check.due("of and with " + l, loom.like(l, l), false);
        }
    }

    private void likeOtherWays() {
        check.sentence("Promise 15", "or their ARROWS' ways are not the same");
        SpanLoom loom = new SpanLoom(2, 8);
        for (int arrow = 0; arrow < 7; arrow++) {
            loom.lay(1, 1 << arrow, 0);
            check.due("nothing, arrow " + arrow + " of the second one", loom.like(0, 1), false);
            check.due("nothing, arrow " + arrow + " of the first one", loom.like(1, 0), false);
            check.due("nothing, arrow " + arrow + " of both", loom.like(1, 1), true);
        }
    }

    private void rankOfNothing() {
        check.sentence("Promise 16", "The greatest number of columns at POST a that, led along to POST b "
                + "(all ARROWS between point that way), stay without a sum of multiples that is 0");
        SpanLoom loom = new SpanLoom(3, 3);
        check.due("of nothing", loom.rank(0, 0, 2), 0);
        loom.lay(0, 0, 0_404);
        check.due("over a post of size 0", loom.rank(0, 0, 2), 0);
        loom.lay(0, 0, 0_444);
        check.due("along tables of 0", loom.rank(0, 0, 2), 0);
        for (int k = 0; k < 4; k++) {
            loom.set(0, 0, k, 3 - k, 1 + k % 2);
            loom.set(0, 1, 3 - k, k, 2);
        }
        check.due("along full tables", loom.rank(0, 0, 2), 4);
        loom.lay(0, 3, 0_444);
        for (int k = 0; k < 3; k++) {
            loom.set(0, 0, k, k, 1);
            loom.set(0, 1, k + 1, k + 1, 1);
        }
        check.due("to the left", loom.rank(0, 2, 0), 2);
    }

    private void rankNoSuchLaying() {
        check.sentence("Promise 16", "NONE if there is none such");
        SpanLoom loom = spansEverywhere(3, 0);
        check.due("of 0", loom.rank(0, 0, 2), 1);
        check.due("of 7", loom.rank(7, 0, 2), 1);
        for (int l : Looms.outside(8)) {
            check.due("of " + l, loom.rank(l, 0, 2), -1);
            check.due("of " + l + ", a itself", loom.rank(l, 0, 0), -1);
        }
    }

    private void rankNoSuchPost() {
        check.sentence("Promise 16", "NONE if there is none such");
        for (int n = 1; n <= 8; n++) {
            SpanLoom right = spansEverywhere(n, 0);
            SpanLoom left = spansEverywhere(n, (1 << (n - 1)) - 1);
            check.due("from the first to the last", right.rank(0, 0, n - 1), 1);
            check.due("from the last to the first", left.rank(0, n - 1, 0), 1);
            for (int post : Looms.outside(n)) {
                check.due("to " + post, right.rank(0, 0, post), -1);
                check.due("from " + post, right.rank(0, post, n - 1), -1);
                check.due("from and to " + post, right.rank(0, post, post), -1);
                check.due("to the left, to " + post, left.rank(0, n - 1, post), -1);
                check.due("to the left, from " + post, left.rank(0, post, 0), -1);
            }
        }
    }

    /** One arrow that points the other way is enough, wherever it is between a and b, and none beyond them counts. */
    private void rankAgainstAnArrow() {
        check.sentence("Promise 16", "or they don't.");
        for (int arrow = 0; arrow < 7; arrow++) {
            SpanLoom loom = new SpanLoom(3, 8);
            loom.span(0, 1 << arrow, 0, 7);
            loom.span(1, 127 ^ 1 << arrow, 0, 7);
            for (int a = 0; a < 8; a++) {
                for (int b = a + 1; b < 8; b++) {
                    boolean between = a <= arrow && arrow < b;
                    boolean alone = between && b == a + 1;
                    check.due("one to the left", loom.rank(0, a, b), between ? -1 : 1);
                    check.due("one to the left, back", loom.rank(0, b, a), alone ? 1 : -1);
                    check.due("one to the right", loom.rank(1, b, a), between ? -1 : 1);
                    check.due("one to the right, back", loom.rank(1, a, b), alone ? 1 : -1);
                }
            }
        }
    }

    private void rankOfAPostItself() {
        check.sentence("Promise 16", "(Of a itself: its SIZE.)");
        for (int ways = 0; ways < 128; ways += 127) {
            SpanLoom loom = new SpanLoom(3, 8);
            loom.lay(0, ways, 0_43210432);
            for (int post = 0; post < 8; post++) {
                check.due("of post " + post, loom.rank(0, post, post), loom.size(0, post));
            }
        }
        SpanLoom single = new SpanLoom(3, 1);
        single.lay(0, 0, 4);
        check.due("of the only post", single.rank(0, 0, 0), 4);
    }

    private void farNoSuchLaying() {
        check.sentence("Promise 17", "NONE if there is none such");
        SpanLoom loom = spansEverywhere(3, 0);
        check.due("of 0 and 7", loom.far(0, 7), 0);
        check.due("of 7 and 0", loom.far(7, 0), 0);
        for (int l : Looms.outside(8)) {
            check.due("of " + l, loom.far(l, 0), -1);
            check.due("and " + l, loom.far(0, l), -1);
            check.due("of and with " + l, loom.far(l, l), -1);
        }
    }

    private void farToTheLeft() {
        check.sentence("Promise 17", "or an ARROW is to the LEFT");
        SpanLoom loom = new SpanLoom(2, 8);
        for (int arrow = 0; arrow < 7; arrow++) {
            loom.lay(1, 1 << arrow, 0);
            loom.lay(2, 1 << arrow, 0);
            check.due("arrow " + arrow + " of the second one", loom.far(0, 1), -1);
            check.due("arrow " + arrow + " of the first one", loom.far(1, 0), -1);
            check.due("arrow " + arrow + " of both", loom.far(1, 2), -1);
        }
    }

    /** All layings are the span of all posts. */
    private static SpanLoom spansEverywhere(int n, int ways) {
        SpanLoom loom = new SpanLoom(5, n);
        for (int l = 0; l < Looms.LAYINGS; l++) {
            loom.span(l, ways, 0, n - 1);
        }
        return loom;
    }
}
