import java.io.IOException;
import java.util.ArrayList;
import java.util.List;

/**
 * 'Terms' taken at its words on small layings: all maps, all columns of numbers and all rows of trees are tried one by
 * one, and nothing is solved.
 */
public final class WordsTest {
    private final Check check;

    private WordsTest(Check check) {
        this.check = check;
    }

    public static void main(String[] args) throws IOException {
        WordsTest test = new WordsTest(new Check(Document.given(args)));
        test.check.run(test::maps, test::like, test::spans, test::rank, test::mix, test::turnIn, test::turnOut, test::kind,
                test::roots);
        test.check.end();
    }

    private void maps() {
        check.sentence("Terms 1", "They are a space: MAPS is how many of them make all others by sums of multiples.");
        for (int seed = 1; seed <= 300; seed++) {
            Drawing a = Drawing.some(new Dice(seed), 3, 2);
            Drawing b = a.another(new Dice(-seed));
            if (TriedMaps.tries(a, b) > TriedMaps.MOST) {
                continue;
            }
            TriedMaps all = new TriedMaps(a, b);
            SpanLoom loom = a.loom();
            a.layAs(loom, 0);
            b.layAs(loom, 1);
            check.due("P to the power of maps, seed " + seed, Counting.power(a.p, loom.maps(0, 1)), all.count);
        }
    }

    private void like() {
        check.sentence("Terms 1", "LIKE (there is a MAP all of whose tables have inverses)");
        int tried = 0;
        int found = 0;
        for (int seed = 1; seed <= 1500; seed++) {
            Dice dice = new Dice(seed);
            Drawing a = Drawing.some(dice, 3, 2);
            Drawing b = a.withOtherTables(dice);
            if (TriedMaps.tries(a, b) > TriedMaps.MOST) {
                continue;
            }
            SpanLoom loom = a.loom();
            a.layAs(loom, 0);
            b.layAs(loom, 1);
            boolean like = new TriedMaps(a, b).hasInverse;
            tried++;
            found += like ? 1 : 0;
            check.due("like, seed " + seed, loom.like(0, 1), like);
        }
        check.due("some were like", found > 100, true);
        check.due("some were not", tried - found > 100, true);
    }

    /** The spans that are told, laid side by side, are like the laying. */
    private void spans() {
        check.sentence("Terms 1", "Each LAYING is LIKE (there is a MAP all of whose tables have inverses) "
                + "SPANS side by side, each so many times, in just one way: these are its SPANS.");
        for (int seed = 1; seed <= 500; seed++) {
            Drawing a = Drawing.some(new Dice(seed), 4, 2);
            if (TriedMaps.tries(a, a) > TriedMaps.MOST) {
                continue;
            }
            SpanLoom loom = a.loom();
            a.layAs(loom, 0);
            loom.lay(1, a.ways, 0);
            for (int start = 0; start < a.n; start++) {
                for (int end = start; end < a.n; end++) {
                    loom.span(2, a.ways, start, end);
                    for (int k = loom.spans(0, start, end); k > 0; k--) {
                        check.due("there is a place for the span", loom.beside(1, 2, 1), true);
                    }
                }
            }
            Drawing parted = Drawing.of(loom, 1, a.p);
            check.due("spans of seed " + seed, parted.hasSizes(a.sizes) && new TriedMaps(parted, a).hasInverse, true);
        }
    }

    private void rank() {
        check.sentence("Promise 16", "The greatest number of columns at POST a that, led along to POST b "
                + "(all ARROWS between point that way), stay without a sum of multiples that is 0");
        for (int seed = 1; seed <= 400; seed++) {
            Drawing drawing = Drawing.some(new Dice(seed), 4, 4);
            SpanLoom loom = drawing.loom();
            drawing.layAs(loom, 0);
            for (int a = 0; a < drawing.n; a++) {
                for (int b = 0; b < drawing.n; b++) {
                    int led = drawing.ledFrom(a, b);
                    int rank = loom.rank(0, a, b);
                    check.due("columns led from " + a + " to " + b, rank < 0 ? -1 : Counting.power(drawing.p, rank), led);
                }
            }
        }
    }

    /** What i becomes is itself a map, from the laying to the mixed one. */
    private void mix() {
        check.sentence("Terms 2", "of columns of numbers there number i becomes i and c times j");
        for (int seed = 1; seed <= 600; seed++) {
            Dice dice = new Dice(seed);
            Drawing drawing = Drawing.some(dice, 5, 4);
            SpanLoom loom = drawing.loom();
            drawing.layAs(loom, 0);
            int post = dice.from(0, drawing.n - 1);
            int i = dice.from(0, 3);
            int j = dice.from(0, 3);
            int c = dice.from(0, drawing.p - 1);
            if (!loom.mix(0, post, i, j, c)) {
                continue;
            }
            int[][][] map = drawing.unchanged();
            map[post][i][j] = c;
            check.due("mixed, seed " + seed, TriedMaps.goWith(drawing, Drawing.of(loom, 0, drawing.p), map), true);
        }
    }

    private void turnIn() {
        check.sentence("Terms 2", "the new space are the columns w with T w being 0");
        turn(true);
    }

    private void turnOut() {
        check.sentence("Terms 2", "the new space are the w, those taken for one that differ by T times some x.");
        turn(false);
    }

    private void turn(boolean in) {
        int made = 0;
        for (int seed = 1; seed <= 800; seed++) {
            Dice dice = new Dice(seed);
            Drawing drawing = Drawing.some(dice, 3, 3);
            int post = dice.from(0, drawing.n - 1);
            if (drawing.n == 1 || !drawing.pointsAll(post, in)) {
                continue;
            }
            SpanLoom loom = drawing.loom();
            drawing.layAs(loom, 0);
            int size = loom.turn(0, post, 1);
            int columns = Counting.power(drawing.p, drawing.besideSize(post));
            int space = in ? drawing.solutions(post) : columns / drawing.images(post);
            if (space > Counting.power(drawing.p, 4)) {
                check.due("a size above 4, seed " + seed, size, -1);
                continue;
            }
            made++;
            check.due("the space's columns, seed " + seed, Counting.power(drawing.p, size), space);
            Drawing turned = Drawing.of(loom, 1, drawing.p);
            boolean fits = in ? turned.leadsInto(post, drawing) : turned.takesForOne(post, drawing);
            check.due("the arrows of seed " + seed, fits, true);
            // In: no two columns are led out of the post to the same w. Out: all columns there are led to.
            check.due("what is led, seed " + seed, in ? turned.images(post) : columns / turned.solutions(post), space);
        }
        check.due("some were turned", made > 100, true);
    }

    private void kind() {
        check.sentence("Terms 4", "1 FINITE: it is above 0 for all rows but that of 0 alone; 2 TAME: it isn't below 0, "
                + "but 0 for another one, too; 3 WILD.");
        for (int n = 1; n <= 6; n++) {
            for (int parents : Trees.all(n)) {
                int least = 1;
                int[] row = new int[n];
                for (int k = Counting.power(7, n) - 1; k >= 0; k--) {
                    Counting.digits(row, k, 7, -2);
                    if (!Counting.isNothing(row)) {
                        least = Math.min(least, Trees.form(n, parents, row));
                    }
                }
                check.due("kind(" + n + ", " + parents + ")", new SpanLoom(2, 1).kind(n, parents), 2 - Integer.signum(least));
            }
        }
    }

    private void roots() {
        check.sentence("Terms 4", "ROOTS of a FINITE one are the rows of numbers not below 0 for which it is 1.");
        for (int n = 1; n <= 5; n++) {
            for (int parents : Trees.all(n)) {
                rootsOf(n, parents, 6);
            }
        }
        rootsOf(6, 23210, 6);
        rootsOf(6, 43000, 6);
        rootsOf(7, 243210, 6);
        rootsOf(7, 543000, 5);
        rootsOf(8, 2543210, 7);
        rootsOf(8, 6543000, 3);
        rootsOf(9, 76543210, 3);
        rootsOf(9, 76543000, 3);
    }

    private void rootsOf(int n, int parents, int most) {
        SpanLoom loom = new SpanLoom(2, 1);
        if (loom.kind(n, parents) != 1) {
            return;
        }
        int found = 0;
        int[] row = new int[n];
        for (int k = Counting.power(most + 1, n) - 1; k >= 0; k--) {
            Counting.digits(row, k, most + 1, 0);
            found += Trees.form(n, parents, row) == 1 ? 1 : 0;
        }
        check.due("roots(" + n + ", " + parents + ")", loom.roots(n, parents), found);
    }

    /** Trees by their parents' digits. */
    private static final class Trees {
        static List<Integer> all(int n) {
            List<Integer> found = new ArrayList<>(List.of(0));
            for (int post = 2, by = 10; post < n; post++, by *= 10) {
                List<Integer> longer = new ArrayList<>();
                for (int parents : found) {
                    for (int parent = 0; parent < post; parent++) {
                        longer.add(parents + parent * by);
                    }
                }
                found = longer;
            }
            return found;
        }

        static int form(int n, int parents, int[] row) {
            int sum = row[0] * row[0];
            int digits = parents;
            for (int post = 1; post < n; post++) {
                sum += row[post] * row[post] - row[post] * row[digits % 10];
                digits /= 10;
            }
            return sum;
        }
    }
}
