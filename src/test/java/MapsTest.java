/** Promises 11 to 13: maps, bends, form. */
public final class MapsTest {
    public static void main(String[] args) {
        Check check = new Check();
        allSpans(check);
        bigOnes(check);
        formByWaysOfFirst(check);
        check.end();
    }

    /** Maps and bends between all spans with all ways, against equations solved one by one. */
    private static void allSpans(Check check) {
        for (int ways = 0; ways < 16; ways++) {
            SpanLoom loom = new SpanLoom(3, 5);
            PlainLoom plain = new PlainLoom(3, 5);
            for (int s = 0; s < 25; s++) {
                if (!loom.span(0, ways, s / 5, s % 5)) {
                    continue;
                }
                plain.span(0, ways, s / 5, s % 5);
                for (int t = 0; t < 25; t++) {
                    if (loom.span(1, ways, t / 5, t % 5)) {
                        plain.span(1, ways, t / 5, t % 5);
                        check.due("maps", loom.maps(0, 1), plain.maps(0, 1));
                        check.due("bends", loom.bends(0, 1), plain.bends(0, 1));
                        check.due("form", loom.form(0, 1), plain.form(0, 1));
                    }
                }
            }
        }
    }

    private static void bigOnes(Check check) {
        SpanLoom loom = new SpanLoom(2, 8);
        loom.lay(0, 0, 0_44444444);
        check.due("maps where all tables are 0", loom.maps(0, 0), 128);
        check.due("form", loom.form(0, 0), 16);
        check.due("bends", loom.bends(0, 0), 112);
        loom.lay(1, 0, 0_00000004);
        loom.lay(2, 0, 0_00000040);
        check.due("no maps", loom.maps(1, 2), 0);
        check.due("bends of the one by the other", loom.bends(1, 2), 16);
        check.due("bends of the other by the one", loom.bends(2, 1), 0);
    }

    private static void formByWaysOfFirst(Check check) {
        SpanLoom loom = new SpanLoom(2, 2);
        loom.lay(0, 0, 0_32);
        loom.lay(1, 1, 0_14);
        check.due("form by the right", loom.form(0, 1), 2 * 4 + 3 - 2);
        check.due("form by the left", loom.form(1, 0), 2 * 4 + 3 - 2);
        check.due("form of itself by the left", loom.form(1, 1), 16 + 1 - 4);
        loom.lay(1, 0, 0_14);
        check.due("form the other way", loom.form(1, 0), 2 * 4 + 3 - 4 * 3);
    }
}
