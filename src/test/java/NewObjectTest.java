/** Promises 1 and 20: a new object, count; and the layings that are there at first. */
public final class NewObjectTest {
    private static final int[] PRIMES = {2, 3, 5, 7, 11, 13};

    public static void main(String[] args) {
        Check check = new Check();
        primes(check);
        posts(check);
        atFirst(check);
        wrongCounts(check);
        check.due("NONE", SpanLoom.NONE, -1);
        check.end();
    }

    private static void primes(Check check) {
        for (int given = -3; given <= 20; given++) {
            int want = 2;
            for (int prime : PRIMES) {
                want = prime <= given ? prime : want;
            }
            check.due("P of " + given, new SpanLoom(given, 3).count(0), want);
        }
        check.due("P of the least int", new SpanLoom(Integer.MIN_VALUE, 3).count(0), 2);
        check.due("P of the greatest int", new SpanLoom(Integer.MAX_VALUE, 3).count(0), 13);
    }

    private static void posts(Check check) {
        for (int given = -2; given <= 11; given++) {
            check.due("N of " + given, new SpanLoom(3, given).count(1), Math.min(8, Math.max(1, given)));
        }
        check.due("N of the least int", new SpanLoom(3, Integer.MIN_VALUE).count(1), 1);
        check.due("N of the greatest int", new SpanLoom(3, Integer.MAX_VALUE).count(1), 8);
    }

    private static void atFirst(Check check) {
        SpanLoom loom = new SpanLoom(5, 8);
        for (int l = 0; l < 8; l++) {
            check.due("ways at first", loom.ways(l), 0);
            for (int post = 0; post < 8; post++) {
                check.due("size at first", loom.size(l, post), 0);
            }
            check.due("spans at first", loom.spans(l, 0, 7), 0);
            check.due("maps at first", loom.maps(l, 0), 0);
            check.due("far at first", loom.far(l, 0), 0);
            check.due("like at first", loom.like(l, 0), true);
        }
    }

    private static void wrongCounts(Check check) {
        SpanLoom loom = new SpanLoom(5, 4);
        int[] wrong = {-1, 2, 3, Integer.MIN_VALUE, Integer.MAX_VALUE};
        for (int what : wrong) {
            check.due("count of " + what, loom.count(what), -1);
        }
    }
}
