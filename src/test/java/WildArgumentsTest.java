/** No call throws, whatever its arguments are, and calls that only ask change nothing. */
public final class WildArgumentsTest {
    private static final int[] VALUES = {
        Integer.MIN_VALUE, -2147483641, -100, -9, -2, -1, 0, 1, 2, 3, 4, 5, 7, 8, 9, 31, 32, 63, 64, 100,
        1 << 24, Integer.MAX_VALUE,
    };

    private final Dice dice = new Dice(7);
    private final Check check = new Check();

    public static void main(String[] args) {
        new WildArgumentsTest().run();
    }

    private void run() {
        int[] sizes = {Integer.MIN_VALUE, 0, 1, 2, 5, 8, Integer.MAX_VALUE};
        for (int prime : VALUES) {
            for (int posts : sizes) {
                SpanLoom loom = new SpanLoom(prime, posts);
                for (int k = 0; k < 300; k++) {
                    change(loom, k);
                    long before = seen(loom);
                    ask(loom, k);
                    check.due("what is seen after a question", seen(loom), before);
                }
            }
        }
        check.end();
    }

    private int any() {
        return dice.once(3) ? dice.from(0, 4) : VALUES[dice.from(0, VALUES.length - 1)];
    }

    private void change(SpanLoom loom, int k) {
        switch (k % 6) {
            case 0 -> loom.lay(any(), any(), any() * 73);
            case 1 -> loom.set(any(), any(), any(), any(), any());
            case 2 -> loom.span(any(), any(), any(), any());
            case 3 -> loom.beside(any(), any(), any());
            case 4 -> loom.mix(any(), any(), any(), any(), any());
            default -> loom.turn(any(), any(), any());
        }
    }

    private void ask(SpanLoom loom, int k) {
        switch (k % 13) {
            case 0 -> loom.get(any(), any(), any(), any());
            case 1 -> loom.size(any(), any());
            case 2 -> loom.ways(any());
            case 3 -> loom.maps(any(), any());
            case 4 -> loom.bends(any(), any());
            case 5 -> loom.form(any(), any());
            case 6 -> loom.spans(any(), any(), any());
            case 7 -> loom.like(any(), any());
            case 8 -> loom.rank(any(), any(), any());
            case 9 -> loom.far(any(), any());
            case 10 -> loom.kind(any(), any());
            case 11 -> loom.roots(any(), any());
            default -> loom.count(any());
        }
    }

    private static long seen(SpanLoom loom) {
        long sum = 0;
        for (int l = 0; l < 8; l++) {
            sum = sum * 31 + loom.ways(l);
            for (int post = 0; post < loom.count(1); post++) {
                sum = sum * 31 + loom.size(l, post);
                for (int cell = 0; cell < 16; cell++) {
                    sum = sum * 31 + loom.get(l, post, cell / 4, cell % 4);
                }
            }
        }
        return sum;
    }
}
