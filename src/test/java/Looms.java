/** Looms, what is seen of them, and indexes that nothing in them has. */
final class Looms {
    static final int LAYINGS = 8;

    private Looms() {
    }

    /** Indexes near to 0 .. bound - 1 and far from it, but not among them. */
    static int[] outside(int bound) {
        return new int[] {-1, bound, bound + 1, -bound - 1, bound + 256, Integer.MIN_VALUE, Integer.MAX_VALUE};
    }

    /** All that can be seen of all layings, a line for each, in so few calls that a test can look twice. */
    static String seen(SpanLoom loom) {
        StringBuilder text = new StringBuilder();
        int posts = loom.count(1);
        for (int l = 0; l < LAYINGS; l++) {
            int ways = loom.ways(l);
            text.append(ways).append(':');
            int[] sizes = new int[posts];
            for (int post = 0; post < posts; post++) {
                sizes[post] = loom.size(l, post);
                text.append(' ').append(sizes[post]);
            }
            for (int arrow = 0; arrow < posts - 1; arrow++) {
                boolean left = (ways >> arrow & 1) == 1;
                int rows = sizes[left ? arrow : arrow + 1];
                int columns = sizes[left ? arrow + 1 : arrow];
                text.append(" |");
                for (int cell = 0; cell < rows * columns; cell++) {
                    text.append(' ').append(loom.get(l, arrow, cell / columns, cell % columns));
                }
            }
            text.append('\n');
        }
        return text.toString();
    }

    /** Three posts, rests by 5, and layings with all ways, all sizes, and numbers that aren't 0: 100 calls. */
    static SpanLoom full() {
        SpanLoom loom = new SpanLoom(5, 3);
        int[][] sizes = {{2, 2, 2}, {2, 1, 4}, {1, 2, 3}, {3, 4, 1}, {4, 4, 4}, {1, 0, 1}, {2, 1, 2}, {4, 3, 2}};
        for (int l = 0; l < LAYINGS; l++) {
            loom.lay(l, l % 4, sizes[l][0] | sizes[l][1] << 3 | sizes[l][2] << 6);
            for (int arrow = 0; arrow < 2; arrow++) {
                boolean left = (l >> arrow & 1) == 1;
                int columns = sizes[l][left ? arrow + 1 : arrow];
                for (int cell = 0; cell < sizes[l][arrow] * sizes[l][arrow + 1]; cell++) {
                    loom.set(l, arrow, cell / columns, cell % columns, 1 + (cell * 7 + l) % 4);
                }
            }
        }
        return loom;
    }
}
