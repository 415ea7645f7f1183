/** Promise 10: turn. */
public final class TurnTest {
    public static void main(String[] args) {
        Check check = new Check();
        turnIn(check);
        turnOut(check);
        turnAtAnEnd(check);
        turnIntoItself(check);
        turnTwice(check);
        check.end();
    }

    /** T is 1 2 | 3 over 2 4 | 0: least rows 1 2 0 and 0 0 1, so place 1 alone is FREE, with w = 3 1 0. */
    private static void turnIn(Check check) {
        SpanLoom loom = new SpanLoom(5, 4);
        loom.lay(0, 2, 0_1122);
        Tables.fill(loom, 0, 0, new int[][] {{1, 2}, {2, 4}});
        Tables.fill(loom, 0, 1, new int[][] {{3}, {0}});
        loom.set(0, 2, 0, 0, 4);
        check.due("turn in", loom.turn(0, 1, 3), 1);
        check.due("ways", loom.ways(3), 1);
        check.due("size", loom.size(3, 1), 1);
        check.due("size beside", loom.size(3, 0), 2);
        Tables.same(check, loom, 3, 0, new int[][] {{3}, {1}});
        Tables.same(check, loom, 3, 1, new int[][] {{0}});
        Tables.same(check, loom, 3, 2, new int[][] {{4}});
        check.due("the old one stays", loom.ways(0), 2);
        check.due("the old one's number stays", loom.get(0, 0, 1, 1), 4);
    }

    /** T is 1 over 2 over 3: least row 1 2 3, FREE are places 1 and 2; 1 0 0 is -2, -3 there. */
    private static void turnOut(Check check) {
        SpanLoom loom = new SpanLoom(7, 3);
        loom.lay(0, 1, 0_112);
        Tables.fill(loom, 0, 0, new int[][] {{1}, {2}});
        Tables.fill(loom, 0, 1, new int[][] {{3}});
        check.due("turn out", loom.turn(0, 1, 1), 2);
        check.due("ways", loom.ways(1), 2);
        Tables.same(check, loom, 1, 0, new int[][] {{5, 1}, {4, 0}});
        Tables.same(check, loom, 1, 1, new int[][] {{0}, {1}});
    }

    private static void turnAtAnEnd(Check check) {
        SpanLoom loom = new SpanLoom(3, 2);
        loom.lay(0, 0, 0_12);
        Tables.fill(loom, 0, 0, new int[][] {{1, 1}});
        check.due("in at the last post", loom.turn(0, 1, 1), 1);
        check.due("ways", loom.ways(1), 1);
        Tables.same(check, loom, 1, 0, new int[][] {{2}, {1}});
        check.due("out at the first post", loom.turn(0, 0, 2), 0);
        check.due("size", loom.size(2, 0), 0);
        check.due("size beside", loom.size(2, 1), 1);
        loom.lay(3, 0, 0_40);
        check.due("out of size 0", loom.turn(3, 0, 3), 4);
        check.due("a table of 1", loom.get(3, 0, 2, 2), 1);
        check.due("a table of 1, elsewhere 0", loom.get(3, 0, 2, 3), 0);
    }

    private static void turnIntoItself(Check check) {
        SpanLoom loom = new SpanLoom(7, 3);
        loom.span(0, 2, 0, 2);
        check.due("into itself", loom.turn(0, 1, 0), 1);
        check.due("ways", loom.ways(0), 1);
        Tables.same(check, loom, 0, 0, new int[][] {{6}});
        Tables.same(check, loom, 0, 1, new int[][] {{1}});
    }

    /** Turned there and back, a laying without the span of the post alone is like itself. */
    private static void turnTwice(Check check) {
        SpanLoom loom = new SpanLoom(13, 3);
        loom.lay(0, 2, 0_222);
        Tables.fill(loom, 0, 0, new int[][] {{1, 2}, {3, 6}});
        Tables.fill(loom, 0, 1, new int[][] {{1, 7}, {0, 5}});
        check.due("no span of it alone", loom.spans(0, 1, 1), 0);
        check.due("turn", loom.turn(0, 1, 1), 2);
        check.due("turn back", loom.turn(1, 1, 1), 2);
        check.due("like", loom.like(0, 1), true);
        loom.span(2, 2, 1, 1);
        loom.beside(0, 2, 2);
        check.due("turn with a span of it alone", loom.turn(2, 1, 3), 2);
        check.due("turn back", loom.turn(3, 1, 3), 2);
        check.due("it is gone", loom.like(0, 3), true);
        check.due("it was there", loom.like(0, 2), false);
    }
}
