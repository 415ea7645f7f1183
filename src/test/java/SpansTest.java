/** Promises 14 to 16: spans, like, rank. */
public final class SpansTest {
    public static void main(String[] args) {
        Check check = new Check();
        for (int seed = 1; seed <= 300; seed++) {
            mixedSpansAreFound(check, new Dice(seed));
        }
        ranks(check);
        likeNotSame(check);
        check.end();
    }

    /** Spans side by side stay what they are however much is mixed at the posts. */
    private static void mixedSpansAreFound(Check check, Dice dice) {
        int n = dice.from(1, 8);
        int p = new int[] {2, 3, 5, 7, 11, 13}[dice.from(0, 5)];
        SpanLoom loom = new SpanLoom(p, n);
        int ways = dice.from(0, (1 << (n - 1)) - 1);
        int[][] times = new int[n][n];
        loom.lay(0, ways, 0);
        for (int k = 0; k < 12; k++) {
            int a = dice.from(0, n - 1);
            int b = dice.from(a, n - 1);
            loom.span(1, ways, a, b);
            if (loom.beside(0, 1, 0)) {
                times[a][b]++;
            }
        }
        loom.beside(0, 7, 2);
        if (ways == 0) {
            check.due("beside nothing", loom.like(0, 2), true);
        }
        loom.lay(3, ways, 0);
        loom.beside(0, 3, 4);
        for (int k = 0; k < 60; k++) {
            loom.mix(0, dice.from(0, n - 1), dice.from(0, 3), dice.from(0, 3), dice.from(0, p - 1));
        }
        for (int a = 0; a < n; a++) {
            for (int b = a; b < n; b++) {
                check.due("spans from " + a + " to " + b, loom.spans(0, a, b), times[a][b]);
            }
        }
        check.due("like what it was", loom.like(0, 4), true);
        check.due("like what it was, the other way", loom.like(4, 0), true);
        check.due("maps to what it was", loom.maps(0, 4), loom.maps(4, 4));
        for (int k = 0; k < 1000 && !loom.span(1, ways, dice.from(0, n - 1), dice.from(0, n - 1)); k++) {
            continue;
        }
        if (loom.beside(4, 1, 4)) {
            check.due("not like with one more", loom.like(0, 4), false);
        }
    }

    private static void ranks(Check check) {
        SpanLoom loom = new SpanLoom(5, 4);
        loom.lay(0, 4, 0_2232);
        loom.set(0, 0, 0, 0, 1);
        loom.set(0, 0, 1, 1, 1);
        loom.set(0, 1, 0, 0, 2);
        loom.set(0, 1, 1, 0, 1);
        loom.set(0, 1, 1, 2, 1);
        loom.set(0, 2, 0, 1, 1);
        check.due("rank along one arrow", loom.rank(0, 0, 1), 2);
        check.due("rank along another arrow", loom.rank(0, 1, 2), 2);
        check.due("rank along both", loom.rank(0, 0, 2), 1);
        check.due("rank to the left", loom.rank(0, 3, 2), 1);
        check.due("of a post itself", loom.rank(0, 1, 1), 3);
        check.due("against an arrow", loom.rank(0, 2, 3), -1);
        check.due("against the last arrow", loom.rank(0, 0, 3), -1);
        check.due("against the first ones", loom.rank(0, 3, 0), -1);
        check.due("back", loom.rank(0, 1, 0), -1);
        loom.lay(1, 7, 0_1111);
        check.due("of 0 to the left", loom.rank(1, 3, 0), 0);
        loom.span(1, 7, 0, 3);
        check.due("of a span to the left", loom.rank(1, 3, 0), 1);
    }

    private static void likeNotSame(Check check) {
        SpanLoom loom = new SpanLoom(3, 2);
        loom.lay(0, 0, 0_22);
        loom.lay(1, 0, 0_22);
        check.due("both of 0", loom.like(0, 1), true);
        loom.set(0, 0, 0, 1, 2);
        check.due("one of rank 1", loom.like(0, 1), false);
        loom.set(1, 0, 1, 0, 1);
        check.due("both of rank 1", loom.like(0, 1), true);
        loom.set(1, 0, 0, 1, 1);
        check.due("one of rank 2", loom.like(0, 1), false);
        check.due("itself", loom.like(1, 1), true);
        loom.lay(2, 0, 0_21);
        check.due("other sizes", loom.like(1, 2), false);
    }
}
