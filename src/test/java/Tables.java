/** Whole tables of a laying, written and looked at number by number. */
final class Tables {
    private Tables() {
    }

    static void fill(SpanLoom loom, int l, int arrow, int[][] table) {
        for (int row = 0; row < table.length; row++) {
            for (int column = 0; column < table[row].length; column++) {
                loom.set(l, arrow, row, column, table[row][column]);
            }
        }
    }

    static void same(Check check, SpanLoom loom, int l, int arrow, int[][] want) {
        for (int row = 0; row < want.length; row++) {
            for (int column = 0; column < want[row].length; column++) {
                check.due("arrow " + arrow + " at " + row + ", " + column,
                        loom.get(l, arrow, row, column), want[row][column]);
            }
        }
        check.due("no further row", loom.get(l, arrow, want.length, 0), -1);
        check.due("no further column", loom.get(l, arrow, 0, want[0].length), -1);
    }
}
