import java.io.IOException;

/** 'Terms', 1 to 4: a test for each sentence that names an edge, called by its place and its words. */
public final class EdgesOfTermsTest {
    private static final int[] PRIMES = {2, 3, 5, 7, 11, 13};

    private final Check check;

    private EdgesOfTermsTest(Check check) {
        this.check = check;
    }

    public static void main(String[] args) throws IOException {
        EdgesOfTermsTest test = new EdgesOfTermsTest(new Check(Document.given(args)));
        test.check.run(
                test::numbers, test::posts, test::arrows, test::sizes, test::tables, test::layings, test::atFirst,
                test::maps, test::spanOfOnePost, test::spanAtTheRims, test::sideBySideWithNothing,
                test::partedIntoSpans, test::form, test::bendings, test::turnOneArrow, test::turnTwoArrows,
                test::leftOneFirst, test::turnInOfNothing, test::turnOutOfNothing, test::arrowsLeadTheOtherWay,
                test::leastRows, test::noRowsOfNothing, test::freePlacesInOrder,
                test::nothingAtPlacesThatAreNotFree, test::farOfTheRight, test::farAlone, test::farWithoutSign,
                test::farCostAlone, test::farOfNone, test::treesOfUpToNine, test::finite, test::tame, test::wild,
                test::rootsAreNotBelowNothing);
        test.check.end();
    }

    /** Where a number would be below 0 or P itself, it wraps around. */
    private void numbers() {
        check.sentence("Terms 1", "NUMBERS are rests by a prime P (0 .. P - 1).");
        for (int p : PRIMES) {
            SpanLoom loom = new SpanLoom(p, 2);
            loom.lay(0, 0, 0_22);
            Tables.fill(loom, 0, 0, new int[][] {{p - 1, 0}, {1, 1}});
            loom.mix(0, 1, 0, 1, 1);
            Tables.same(check, loom, 0, 0, new int[][] {{0, 1}, {1, 1}});
            loom.mix(0, 0, 0, 1, 1);
            Tables.same(check, loom, 0, 0, new int[][] {{0, 1}, {1, 0}});
            loom.mix(0, 0, 1, 0, p - 1);
            Tables.same(check, loom, 0, 0, new int[][] {{1, 1}, {1, 0}});
            loom.lay(1, 0, 0_13);
            Tables.fill(loom, 1, 0, new int[][] {{1, 1, 0}});
            check.due("turn", loom.turn(1, 1, 1), 2);
            Tables.same(check, loom, 1, 0, new int[][] {{p - 1, 0}, {1, 0}, {0, 1}});
        }
    }

    private void posts() {
        check.sentence("Terms 1", "A LINE has N POSTS 0 .. N - 1 (1 .. 8)");
        for (int n = 1; n <= 8; n++) {
            SpanLoom loom = new SpanLoom(2, n);
            check.due("the first post of " + n, loom.size(0, 0), 0);
            check.due("the last post of " + n, loom.size(0, n - 1), 0);
            for (int post : Looms.outside(n)) {
                check.due("post " + post + " of " + n, loom.size(0, post), -1);
            }
        }
    }

    private void arrows() {
        check.sentence("Terms 1", "ARROW k is between the POSTS k and k + 1, to the RIGHT or to the LEFT.");
        for (int n = 1; n <= 8; n++) {
            SpanLoom loom = new SpanLoom(2, n);
            int all = (1 << (n - 1)) - 1;
            for (int ways = 0; ways <= all; ways += Math.max(1, all)) {
                loom.span(0, ways, 0, n - 1);
                for (int arrow = -1; arrow <= n; arrow++) {
                    boolean there = arrow >= 0 && arrow < n - 1;
                    check.due("arrow " + arrow + " of " + n, loom.get(0, arrow, 0, 0), there ? 1 : -1);
                }
            }
        }
    }

    private void sizes() {
        check.sentence("Terms 1", "for each POST a SIZE (0 .. 4)");
        SpanLoom loom = new SpanLoom(2, 1);
        for (int size = 0; size <= 7; size++) {
            check.due("a size of " + size, loom.lay(0, 0, size), size <= 4);
            check.due("the size then", loom.size(0, 0), Math.min(size, 4));
        }
    }

    /** A size of 0 leaves no row or no column, and one of 4 leaves row and column 3, but not 4. */
    private void tables() {
        check.sentence("Terms 1", "as many rows as the SIZE of the POST to which it points, "
                + "as many columns as that of the one from which it comes.");
        SpanLoom loom = new SpanLoom(2, 2);
        int[][] laid = {{0, 0_40, 4, 0}, {0, 0_04, 0, 4}, {0, 0_43, 4, 3}, {0, 0_00, 0, 0},
            {1, 0_40, 0, 4}, {1, 0_04, 4, 0}, {1, 0_43, 3, 4}, {1, 0_00, 0, 0}, {1, 0_44, 4, 4}};
        for (int[] l : laid) {
            loom.lay(0, l[0], l[1]);
            for (int cell = 0; cell < 36; cell++) {
                int row = cell / 6 - 1;
                int column = cell % 6 - 1;
                boolean there = row >= 0 && row < l[2] && column >= 0 && column < l[3];
                check.due("row " + row + ", column " + column, loom.get(0, 0, row, column), there ? 0 : -1);
            }
        }
    }

    private void layings() {
        check.sentence("Terms 1", "There are LAYINGS 0 .. 7");
        SpanLoom loom = new SpanLoom(2, 2);
        for (int l = 0; l < 8; l++) {
            check.due("laying " + l, loom.lay(l, 0, l % 4 + 1), true);
        }
        for (int l = 0; l < 8; l++) {
            check.due("size of laying " + l, loom.size(l, 0), l % 4 + 1);
        }
        for (int l : Looms.outside(8)) {
            check.due("laying " + l, loom.lay(l, 0, 1), false);
            check.due("size of laying " + l, loom.size(l, 0), -1);
        }
    }

    private void atFirst() {
        check.sentence("Terms 1", "at first all ARROWS are to the RIGHT, SIZES are 0.");
        for (int n = 1; n <= 8; n++) {
            SpanLoom loom = new SpanLoom(5, n);
            for (int l = 0; l < 8; l++) {
                check.due("ways at first", loom.ways(l), 0);
                for (int post = 0; post < n; post++) {
                    check.due("size at first", loom.size(l, post), 0);
                    check.due("no table at first", loom.get(l, post, 0, 0), -1);
                }
                check.due("spans at first", loom.spans(l, 0, n - 1), 0);
                check.due("like at first", loom.like(l, 7 - l), true);
            }
        }
    }

    private void maps() {
        check.sentence("Terms 1", "MAPS is how many of them make all others by sums of multiples.");
        SpanLoom loom = new SpanLoom(2, 8);
        loom.lay(1, 0, 0_44444444);
        check.due("of nothing", loom.maps(0, 0), 0);
        check.due("from nothing", loom.maps(0, 1), 0);
        check.due("to nothing", loom.maps(1, 0), 0);
        check.due("of the greatest laying of 0", loom.maps(1, 1), 8 * 16);
    }

    private void spanOfOnePost() {
        check.sentence("Terms 1", "The SPAN from a to b (a not above b)");
        SpanLoom loom = new SpanLoom(3, 8);
        for (int a = 0; a < 8; a++) {
            check.due("a is b", loom.span(0, 0, a, a), true);
            check.due("its spans", loom.spans(0, a, a), 1);
            check.due("a above b by 1", loom.span(0, 0, a, a - 1), false);
            check.due("spans with a above b", loom.spans(0, a, a - 1), -1);
        }
    }

    private void spanAtTheRims() {
        check.sentence("Terms 1", "has SIZE 1 at the POSTS a to b, 0 at others, "
                + "and the number 1 on each ARROW between.");
        SpanLoom loom = new SpanLoom(3, 4);
        for (int a = 0; a < 4; a++) {
            for (int b = a; b < 4; b++) {
                loom.span(0, 5, a, b);
                for (int post = 0; post < 4; post++) {
                    check.due("size at " + post, loom.size(0, post), a <= post && post <= b ? 1 : 0);
                }
                for (int arrow = 0; arrow < 3; arrow++) {
                    boolean between = a <= arrow && arrow < b;
                    check.due("number on " + arrow, loom.get(0, arrow, 0, 0), between ? 1 : -1);
                }
            }
        }
    }

    private void sideBySideWithNothing() {
        check.sentence("Terms 1", "in TABLES those of the first one are above and left, "
                + "those of the second one below and right, 0 elsewhere.");
        SpanLoom loom = new SpanLoom(7, 2);
        loom.lay(0, 0, 0_21);
        Tables.fill(loom, 0, 0, new int[][] {{3}, {5}});
        loom.beside(0, 1, 2);
        Tables.same(check, loom, 2, 0, new int[][] {{3}, {5}});
        loom.beside(1, 0, 2);
        Tables.same(check, loom, 2, 0, new int[][] {{3}, {5}});
        loom.lay(1, 0, 0_02);
        loom.beside(0, 1, 2);
        Tables.same(check, loom, 2, 0, new int[][] {{3, 0, 0}, {5, 0, 0}});
        loom.beside(1, 0, 2);
        Tables.same(check, loom, 2, 0, new int[][] {{0, 0, 3}, {0, 0, 5}});
        loom.lay(1, 0, 0_20);
        loom.beside(0, 1, 2);
        Tables.same(check, loom, 2, 0, new int[][] {{3}, {5}, {0}, {0}});
        loom.beside(1, 0, 2);
        Tables.same(check, loom, 2, 0, new int[][] {{0}, {0}, {3}, {5}});
        loom.beside(1, 1, 2);
        check.due("two without columns", loom.get(2, 0, 0, 0), -1);
        check.due("their size", loom.size(2, 1), 4);
    }

    private void partedIntoSpans() {
        check.sentence("Terms 1", "Each LAYING is LIKE (there is a MAP all of whose tables have inverses) "
                + "SPANS side by side, each so many times, in just one way: these are its SPANS.");
        SpanLoom loom = new SpanLoom(2, 8);
        loom.lay(1, 85, 0_44444444);
        loom.lay(2, 85, 0_44444444);
        for (int cell = 0; cell < 28; cell++) {
            loom.set(2, cell / 4, cell % 4, 3 - cell % 4, 1);
        }
        for (int a = 0; a < 8; a++) {
            for (int b = a; b < 8; b++) {
                check.due("of nothing", loom.spans(0, a, b), 0);
                check.due("of full posts and tables of 0", loom.spans(1, a, b), a == b ? 4 : 0);
                check.due("of full posts and full tables", loom.spans(2, a, b), b - a == 7 ? 4 : 0);
            }
        }
        check.due("not like one another", loom.like(1, 2), false);
    }

    private void form() {
        check.sentence("Terms 2", "the sum of all x y at one POST, "
                + "less those of x where an ARROW comes from and y where it points to.");
        SpanLoom single = new SpanLoom(2, 1);
        single.lay(0, 0, 4);
        single.lay(1, 0, 3);
        check.due("without arrows", single.form(0, 1), 12);
        check.due("with nothing", single.form(0, 2), 0);
        SpanLoom loom = new SpanLoom(2, 2);
        loom.lay(0, 0, 0_04);
        loom.lay(1, 0, 0_40);
        check.due("below 0", loom.form(0, 1), -16);
        check.due("against the arrow", loom.form(1, 0), 0);
        loom.lay(1, 1, 0_40);
        check.due("below 0 to the left", loom.form(1, 0), -16);
        SpanLoom longest = new SpanLoom(2, 8);
        longest.lay(0, 0, 0_44444444);
        check.due("the greatest", longest.form(0, 0), 8 * 16 - 7 * 16);
    }

    private void bendings() {
        check.sentence("Terms 2", "BENDINGS of one LAYING by another one: MAPS less FORM.");
        SpanLoom single = new SpanLoom(2, 1);
        single.lay(0, 0, 4);
        check.due("without arrows", single.bends(0, 0), 0);
        check.due("of nothing", single.bends(1, 1), 0);
        SpanLoom loom = new SpanLoom(2, 8);
        loom.lay(0, 0, 0_44444444);
        check.due("the greatest", loom.bends(0, 0), 7 * 16);
        loom.lay(1, 0, 0_00000004);
        loom.lay(2, 0, 0_00000040);
        check.due("no maps, form below 0", loom.bends(1, 2), 16);
        check.due("no maps, form 0", loom.bends(2, 1), 0);
    }

    private void turnOneArrow() {
        check.sentence("Terms 2", "all its ARROWS (one or two) point in, or all out.");
        SpanLoom loom = new SpanLoom(3, 2);
        loom.lay(0, 0, 0_12);
        Tables.fill(loom, 0, 0, new int[][] {{1, 1}});
        check.due("one in, at the last post", loom.turn(0, 1, 1), 1);
        Tables.same(check, loom, 1, 0, new int[][] {{2}, {1}});
        check.due("one out, at the last post", loom.turn(1, 1, 2), 1);
        Tables.same(check, loom, 2, 0, new int[][] {{1, 1}});
        loom.lay(0, 1, 0_21);
        Tables.fill(loom, 0, 0, new int[][] {{1, 1}});
        check.due("one in, at the first post", loom.turn(0, 0, 1), 1);
        Tables.same(check, loom, 1, 0, new int[][] {{2}, {1}});
        check.due("one out, at the first post", loom.turn(1, 0, 2), 1);
        Tables.same(check, loom, 2, 0, new int[][] {{1, 1}});
    }

    private void turnTwoArrows() {
        check.sentence("Terms 2", "all its ARROWS (one or two) point in, or all out.");
        SpanLoom loom = new SpanLoom(3, 3);
        for (int ways = 0; ways < 4; ways++) {
            boolean through = ways == 0 || ways == 3;
            loom.span(0, ways, 0, 2);
            check.due("ways " + ways, loom.turn(0, 1, 1), through ? -1 : 1);
            loom.lay(0, ways, 0);
            check.due("ways " + ways + " of nothing", loom.turn(0, 1, 1), through ? -1 : 0);
        }
    }

    private void leftOneFirst() {
        check.sentence("Terms 2", "W are the numbers at the POSTS beside it: "
                + "of the left one first, then of the right one.");
        SpanLoom loom = new SpanLoom(5, 3);
        loom.span(0, 2, 0, 2);
        loom.turn(0, 1, 1);
        check.due("in: the left one", loom.get(1, 0, 0, 0), 4);
        check.due("in: the right one", loom.get(1, 1, 0, 0), 1);
        loom.span(0, 1, 0, 2);
        loom.turn(0, 1, 1);
        check.due("out: the left one", loom.get(1, 0, 0, 0), 4);
        check.due("out: the right one", loom.get(1, 1, 0, 0), 1);
    }

    private void turnInOfNothing() {
        check.sentence("Terms 2", "the new space are the columns w with T w being 0");
        SpanLoom loom = new SpanLoom(5, 3);
        loom.lay(0, 2, 0_202);
        check.due("T without rows", loom.turn(0, 1, 1), 4);
        Tables.same(check, loom, 1, 0, new int[][] {{1, 0, 0, 0}, {0, 1, 0, 0}});
        Tables.same(check, loom, 1, 1, new int[][] {{0, 0, 1, 0}, {0, 0, 0, 1}});
        loom.lay(0, 2, 0_040);
        check.due("T without columns", loom.turn(0, 1, 1), 0);
        check.due("its table", loom.get(1, 0, 0, 0), -1);
        loom.lay(0, 2, 0_000);
        check.due("T of nothing", loom.turn(0, 1, 1), 0);
        loom.lay(0, 2, 0_242);
        Tables.fill(loom, 0, 0, new int[][] {{1, 0}, {0, 1}, {0, 0}, {0, 0}});
        Tables.fill(loom, 0, 1, new int[][] {{0, 0}, {0, 0}, {1, 0}, {0, 1}});
        check.due("T leads none but 0 to 0", loom.turn(0, 1, 1), 0);
    }

    private void turnOutOfNothing() {
        check.sentence("Terms 2", "the new space are the w, those taken for one that differ by T times some x.");
        SpanLoom loom = new SpanLoom(5, 3);
        loom.lay(0, 1, 0_202);
        check.due("T without columns", loom.turn(0, 1, 1), 4);
        Tables.same(check, loom, 1, 0, new int[][] {{1, 0}, {0, 1}, {0, 0}, {0, 0}});
        Tables.same(check, loom, 1, 1, new int[][] {{0, 0}, {0, 0}, {1, 0}, {0, 1}});
        loom.lay(0, 1, 0_040);
        check.due("T without rows", loom.turn(0, 1, 1), 0);
        check.due("its table", loom.get(1, 0, 0, 0), -1);
        loom.lay(0, 1, 0_000);
        check.due("T of nothing", loom.turn(0, 1, 1), 0);
        loom.lay(0, 1, 0_242);
        Tables.fill(loom, 0, 0, new int[][] {{1, 0, 0, 0}, {0, 1, 0, 0}});
        Tables.fill(loom, 0, 1, new int[][] {{0, 0, 1, 0}, {0, 0, 0, 1}});
        check.due("all are T times some x", loom.turn(0, 1, 1), 0);
    }

    private void arrowsLeadTheOtherWay() {
        check.sentence("Terms 2", "The ARROWS lead the other way then.");
        SpanLoom loom = new SpanLoom(2, 8);
        for (int post = 0; post < 8; post++) {
            int beside = (1 << post | 1 << post >> 1) & 127;
            loom.lay(0, 85, 0);
            check.due("turn at " + post, loom.turn(0, post, 1), 0);
            check.due("ways after a turn at " + post, loom.ways(1), 85 ^ beside);
            check.due("turn back at " + post, loom.turn(1, post, 1), 0);
            check.due("ways after a turn back at " + post, loom.ways(1), 85);
        }
    }

    /** T is 0 2 | 4 over 3 1 | 5, so its least rows are 1 0 1 and 0 1 2. */
    private void leastRows() {
        check.sentence("Terms 2", "(each one's first number that isn't 0 is 1, alone in its column, "
                + "rows by these columns, none of 0 alone)");
        SpanLoom loom = new SpanLoom(7, 3);
        loom.lay(0, 2, 0_122);
        Tables.fill(loom, 0, 0, new int[][] {{0, 2}, {3, 1}});
        Tables.fill(loom, 0, 1, new int[][] {{4}, {5}});
        check.due("turn in", loom.turn(0, 1, 1), 1);
        Tables.same(check, loom, 1, 0, new int[][] {{6}, {5}});
        Tables.same(check, loom, 1, 1, new int[][] {{1}});
    }

    private void noRowsOfNothing() {
        check.sentence("Terms 2", "none of 0 alone");
        SpanLoom loom = new SpanLoom(7, 2);
        loom.lay(0, 0, 0_32);
        check.due("T of 0 alone", loom.turn(0, 1, 1), 2);
        Tables.same(check, loom, 1, 0, new int[][] {{1, 0}, {0, 1}});
        Tables.fill(loom, 0, 0, new int[][] {{0, 0}, {0, 2}, {0, 3}});
        check.due("T with one row of 0 and two that are multiples", loom.turn(0, 1, 1), 1);
        Tables.same(check, loom, 1, 0, new int[][] {{1}, {0}});
    }

    /** T is 1 2 | 3, so the places 1 and 2 are FREE. */
    private void freePlacesInOrder() {
        check.sentence("Terms 2", "for each FREE place in order, the w that is 1 there, 0 at the other FREE ones");
        SpanLoom loom = new SpanLoom(7, 3);
        loom.lay(0, 2, 0_112);
        Tables.fill(loom, 0, 0, new int[][] {{1, 2}});
        Tables.fill(loom, 0, 1, new int[][] {{3}});
        check.due("turn in", loom.turn(0, 1, 1), 2);
        Tables.same(check, loom, 1, 0, new int[][] {{5, 4}, {1, 0}});
        Tables.same(check, loom, 1, 1, new int[][] {{0, 1}});
    }

    /** The columns of T, taken as rows, are 0 2 | 4 and 3 1 | 5; the least rows are 1 0 1 and 0 1 2. */
    private void nothingAtPlacesThatAreNotFree() {
        check.sentence("Terms 2", "what is there when sums of these rows are taken away "
                + "so that it is 0 at all places that aren't FREE");
        SpanLoom loom = new SpanLoom(7, 3);
        loom.lay(0, 1, 0_122);
        Tables.fill(loom, 0, 0, new int[][] {{0, 3}, {2, 1}});
        Tables.fill(loom, 0, 1, new int[][] {{4, 5}});
        check.due("turn out", loom.turn(0, 1, 1), 1);
        Tables.same(check, loom, 1, 0, new int[][] {{6, 5}});
        Tables.same(check, loom, 1, 1, new int[][] {{1}});
    }

    private void farOfTheRight() {
        check.sentence("Terms 3", "(of two LAYINGS all of whose ARROWS point to the RIGHT)");
        SpanLoom loom = new SpanLoom(2, 8);
        check.due("all to the right", loom.far(0, 1), 0);
        for (int arrow = 0; arrow < 7; arrow++) {
            loom.lay(0, 1 << arrow, 0);
            check.due("arrow " + arrow + " of both to the left", loom.far(0, 0), -1);
        }
        check.due("no arrow at all", new SpanLoom(2, 1).far(0, 1), 0);
    }

    private void farAlone() {
        check.sentence("Terms 3", "SPANS of the one and the other are paired, or stay alone");
        SpanLoom loom = new SpanLoom(2, 8);
        loom.span(0, 0, 0, 7);
        loom.span(1, 0, 3, 3);
        loom.beside(0, 1, 1);
        check.due("one more in the second one", loom.far(0, 1), 1);
        check.due("one more in the first one", loom.far(1, 0), 1);
        loom.lay(2, 0, 0_40000004);
        check.due("all of the first one alone", loom.far(2, 3), 1);
        check.due("all of the second one alone", loom.far(3, 2), 1);
        loom.span(4, 0, 0, 0);
        loom.span(5, 0, 1, 1);
        check.due("both alone rather than paired", loom.far(4, 5), 1);
    }

    private void farWithoutSign() {
        check.sentence("Terms 3", "costs twice the greater of a and c, and b and d, apart "
                + "(one less the other, without sign)");
        int[][] pairs = {{0, 7, 1, 7, 2}, {0, 7, 0, 6, 2}, {0, 7, 1, 6, 2}, {0, 7, 2, 6, 4}, {0, 7, 1, 5, 4},
            {1, 6, 0, 7, 2}, {0, 6, 1, 7, 2}, {1, 7, 0, 6, 2}, {0, 7, 3, 7, 6}, {0, 7, 0, 7, 0}};
        SpanLoom loom = new SpanLoom(2, 8);
        for (int[] k : pairs) {
            loom.span(0, 0, k[0], k[1]);
            loom.span(1, 0, k[2], k[3]);
            check.due("far of the one and the other", loom.far(0, 1), k[4]);
            check.due("far of the other and the one", loom.far(1, 0), k[4]);
        }
        // 1 to 4 is dear at 2, and so is 0 to 2, which ends before it: taken with its sign, that would cost too little.
        loom.span(0, 0, 1, 4);
        loom.span(1, 0, 0, 2);
        loom.span(2, 0, 2, 3);
        loom.beside(1, 2, 1);
        check.due("far of one and two", loom.far(0, 1), 3);
        check.due("far of two and one", loom.far(1, 0), 3);
    }

    private void farCostAlone() {
        check.sentence("Terms 3", "one alone b - a and 1");
        for (int n = 1; n <= 8; n++) {
            SpanLoom loom = new SpanLoom(2, n);
            for (int b = 0; b < n; b++) {
                loom.span(0, 0, 0, b);
                check.due("one of " + (b + 1) + " posts alone", loom.far(0, 1), b + 1);
                loom.span(0, 0, b, n - 1);
                check.due("one of " + (n - b) + " posts alone, second", loom.far(1, 0), n - b);
            }
        }
    }

    private void farOfNone() {
        check.sentence("Terms 3", "FAR is the least of all such pairings' greatest costs (0 of none).");
        for (int n = 1; n <= 8; n++) {
            check.due("no spans at all", new SpanLoom(2, n).far(0, 1), 0);
            check.due("one laying without spans", new SpanLoom(2, n).far(0, 0), 0);
        }
    }

    private void treesOfUpToNine() {
        check.sentence("Terms 4", "SHAPES are TREES of up to 9 POSTS, joined by lines.");
        SpanLoom loom = new SpanLoom(2, 1);
        int line = 0;
        for (int n = 1, by = 1; n <= 9; n++, by *= 10) {
            check.due("a line of " + n, loom.kind(n, line), 1);
            check.due("its roots", loom.roots(n, line), n * (n + 1) / 2);
            line += (n - 1) * by;
        }
        check.due("ten posts", loom.kind(10, 76543210), -1);
    }

    /** A line, a fork and three arms of 1, 2, 4 posts are FINITE up to the greatest ones that there are. */
    private void finite() {
        check.sentence("Terms 4", "1 FINITE: it is above 0 for all rows but that of 0 alone");
        int[][] trees = {{1, 0}, {9, 76543210}, {4, 0}, {9, 76543000}, {6, 23210}, {7, 243210}, {8, 2543210}};
        kinds(trees, 1);
    }

    /** All TAME trees of up to nine posts: two forks with 0 to 4 lines between, and those of three long arms. */
    private void tame() {
        check.sentence("Terms 4", "2 TAME: it isn't below 0, but 0 for another one, too");
        int[][] trees = {{5, 0}, {6, 11000}, {7, 220010}, {8, 3300210}, {9, 44003210}, {7, 523210}, {8, 3543210},
            {9, 26543210}};
        kinds(trees, 2);
    }

    /** Those that are TAME with one post more, and the star of all nine. */
    private void wild() {
        check.sentence("Terms 4", "3 WILD");
        int[][] trees = {{6, 0}, {6, 40000}, {7, 11000}, {8, 220010}, {9, 3300210}, {8, 523210}, {8, 2523210},
            {9, 3543210}, {9, 33543210}, {9, 36543210}, {9, 0}};
        kinds(trees, 3);
    }

    private void kinds(int[][] trees, int want) {
        SpanLoom loom = new SpanLoom(2, 1);
        for (int[] tree : trees) {
            check.due("kind(" + tree[0] + ", " + tree[1] + ")", loom.kind(tree[0], tree[1]), want);
        }
    }

    /** With rows below 0, too, there would be twice as many. */
    private void rootsAreNotBelowNothing() {
        check.sentence("Terms 4", "ROOTS of a FINITE one are the rows of numbers not below 0 for which it is 1.");
        int[][] trees = {{1, 0, 1}, {2, 0, 3}, {3, 0, 6}, {9, 76543210, 45}, {4, 0, 12}, {9, 76543000, 72},
            {6, 23210, 36}, {7, 243210, 63}, {8, 2543210, 120}};
        SpanLoom loom = new SpanLoom(2, 1);
        for (int[] tree : trees) {
            check.due("roots(" + tree[0] + ", " + tree[1] + ")", loom.roots(tree[0], tree[1]), tree[2]);
        }
    }
}
