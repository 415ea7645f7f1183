/** Looms, what is seen of them, and indexes that nothing in them has. */
final class Looms {
    static final int LAYINGS = 8;

    private Looms() {
    }

    /** Indexes near to 0 .. bound - 1 and far from it, but not among them. */
    static int[] outside(int bound) {
        return new int[] {-1, bound, bound + 1, -bound - 1, bound + 256, Integer.MIN_VALUE, Integer.MAX_VALUE};
    }

    /** All that can be seen of all layings, and a rim around it where nothing is to be seen. */
    static String seen(SpanLoom loom) {
        StringBuilder text = new StringBuilder();
        text.append(loom.count(0)).append(' ').append(loom.count(1));
        for (int l = -1; l <= LAYINGS; l++) {
            text.append('\n').append(loom.ways(l)).append(':');
            for (int post = -1; post <= loom.count(1); post++) {
                text.append(' ').append(loom.size(l, post)).append('[');
                for (int cell = 0; cell < 36; cell++) {
                    text.append(loom.get(l, post, cell / 6 - 1, cell % 6 - 1)).append(' ');
                }
                text.append(']');
            }
        }
        return text.toString();
    }

    /** Three posts, rests by 5, and layings with all ways, all sizes, and numbers that aren't 0. */
    static SpanLoom full() {
        SpanLoom loom = new SpanLoom(5, 3);
        int[] sizes = {0_222, 0_412, 0_321, 0_143, 0_444, 0_101, 0_212, 0_234};
        for (int l = 0; l < LAYINGS; l++) {
            loom.lay(l, l % 4, sizes[l]);
            for (int cell = 0; cell < 32; cell++) {
                loom.set(l, cell / 16, cell / 4 % 4, cell % 4, 1 + (cell * 7 + l) % 4);
            }
        }
        return loom;
    }
}
