/**
 * Runs of 512 calls with right and wrong arguments, each answer compared with that of the plain loom; after each
 * call that may change something, all that can be seen of all layings is compared, too (these looks go beyond the
 * document's 512 calls of one object, which the class doesn't count).
 */
public final class RandomRunsTest {
    private static final int CALLS = 512;
    private static final int[] PRIMES = {2, 3, 5, 7, 11, 13};
    private static final int[] ODD = {-1, 8, 9, 4, 5, Integer.MIN_VALUE, Integer.MAX_VALUE, -8, 16};

    private final Check check;
    private final Dice dice;
    private final int p;
    private final int n;
    private final SpanLoom loom;
    private final PlainLoom plain;
    private final int calm;

    private RandomRunsTest(Check check, int seed) {
        this.check = check;
        this.dice = new Dice(seed);
        this.p = PRIMES[dice.from(0, 5)];
        this.n = dice.from(1, seed % 3 == 0 ? 8 : 5);
        this.loom = new SpanLoom(p, n);
        this.plain = new PlainLoom(p, n);
        this.calm = dice.from(0, (1 << (n - 1)) - 1);
    }

    public static void main(String[] args) {
        Check check = new Check();
        for (int seed = 1; seed <= 120; seed++) {
            new RandomRunsTest(check, seed).run();
        }
        check.end();
    }

    private void run() {
        for (int call = 0; call < CALLS; call++) {
            if (dice.once(2)) {
                make();
                compareAll();
            } else {
                ask();
            }
        }
    }

    /** Mostly a number from 0 to most, now and then one that no laying, post, row or number is. */
    private int some(int most) {
        return dice.once(25) ? ODD[dice.from(0, ODD.length - 1)] : dice.from(0, Math.max(0, most));
    }

    private int laying() {
        return some(7);
    }

    /** Few ways in one run, so that layings often have the same ones. */
    private int someWays() {
        return dice.once(3) ? 0 : dice.once(30) ? some(255) : calm;
    }

    private int sizes() {
        int packed = 0;
        for (int k = 0; k < n; k++) {
            packed += dice.from(0, dice.once(60) ? 7 : dice.from(1, 4)) << 3 * k;
        }
        return dice.once(40) ? -packed : dice.once(40) ? packed * 8 + 1 : packed;
    }

    private void make() {
        int l = laying();
        int post = some(n - 1);
        switch (dice.from(0, 9)) {
            case 0 -> {
                int ways = someWays();
                int sizes = sizes();
                check.due("lay", loom.lay(l, ways, sizes), plain.lay(l, ways, sizes));
                fill(l);
            }
            case 1, 2 -> {
                int arrow = some(n - 2);
                int row = some(3);
                int column = some(3);
                int v = dice.once(10) ? ODD[dice.from(0, 8)] : dice.from(-20, 20);
                check.due("set", loom.set(l, arrow, row, column, v), plain.set(l, arrow, row, column, v));
            }
            case 3 -> {
                int ways = someWays();
                int b = some(n - 1);
                check.due("span", loom.span(l, ways, post, b), plain.span(l, ways, post, b));
            }
            case 4, 5, 6 -> {
                int b = laying();
                int to = laying();
                check.due("beside", loom.beside(l, b, to), plain.beside(l, b, to));
            }
            case 7, 8 -> {
                int i = some(3);
                int j = some(3);
                int c = some(p - 1);
                check.due("mix", loom.mix(l, post, i, j, c), plain.mix(l, post, i, j, c));
            }
            default -> {
                int to = laying();
                check.due("turn", loom.turn(l, post, to), plain.turn(l, post, to));
            }
        }
    }

    /** Tables with many 0, and some rows again, so that ranks are not always the greatest. */
    private void fill(int l) {
        int thin = dice.from(1, 3);
        for (int arrow = 0; arrow < n - 1; arrow++) {
            for (int row = 0; row < 4; row++) {
                for (int column = 0; column < 4; column++) {
                    int v = dice.once(thin) ? dice.from(0, p - 1) : 0;
                    check.due("set", loom.set(l, arrow, row, column, v), plain.set(l, arrow, row, column, v));
                }
            }
        }
    }

    private void ask() {
        int a = laying();
        int b = dice.once(4) ? a : laying();
        int x = some(n - 1);
        int y = some(n - 1);
        switch (dice.from(0, n > 5 ? 7 : 9)) {
            case 0 -> check.due("maps", loom.maps(a, b), plain.maps(a, b));
            case 1 -> check.due("bends", loom.bends(a, b), plain.bends(a, b));
            case 2 -> check.due("form", loom.form(a, b), plain.form(a, b));
            case 3, 4 -> check.due("rank", loom.rank(a, x, y), plain.rank(a, x, y));
            case 5 -> {
                if (dice.once(n > 5 ? 10 : 1)) {
                    check.due("spans", loom.spans(a, x, y), plain.spans(a, x, y));
                }
            }
            case 6 -> {
                if (dice.once(n > 5 ? 10 : 1)) {
                    check.due("far", loom.far(a, b), plain.far(a, b));
                }
            }
            case 7 -> {
                if (dice.once(n > 5 ? 10 : 1)) {
                    check.due("like", loom.like(a, b), plain.like(a, b));
                }
            }
            case 8 -> check.due("size", loom.size(a, x), plain.size(a, x));
            default -> check.due("ways", loom.ways(a), plain.ways(a));
        }
    }

    private void compareAll() {
        for (int l = 0; l < 8; l++) {
            check.due("ways of all", loom.ways(l), plain.ways(l));
            for (int post = 0; post < n; post++) {
                check.due("size of all", loom.size(l, post), plain.size(l, post));
            }
            for (int arrow = 0; arrow < n - 1; arrow++) {
                for (int cell = 0; cell < 25; cell++) {
                    int row = cell / 5;
                    int column = cell % 5;
                    check.due("get of all", loom.get(l, arrow, row, column), plain.get(l, arrow, row, column));
                }
            }
        }
    }
}
