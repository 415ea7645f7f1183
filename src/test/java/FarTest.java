import java.util.ArrayList;
import java.util.List;

/** Promise 17: far. */
public final class FarTest {
    public static void main(String[] args) {
        Check check = new Check();
        known(check);
        for (int seed = 1; seed <= 400; seed++) {
            againstAllPairings(check, new Dice(seed));
        }
        for (int seed = 1; seed <= 60; seed++) {
            manySpans(check, new Dice(seed));
        }
        check.end();
    }

    private static void known(Check check) {
        SpanLoom loom = new SpanLoom(2, 8);
        loom.span(0, 0, 0, 7);
        check.due("nothing from nothing", loom.far(1, 2), 0);
        check.due("the longest alone", loom.far(0, 1), 8);
        check.due("the longest alone, the other way", loom.far(1, 0), 8);
        check.due("itself", loom.far(0, 0), 0);
        loom.span(1, 0, 1, 7);
        check.due("one step at the start", loom.far(0, 1), 2);
        loom.span(1, 0, 2, 6);
        check.due("two steps at the start", loom.far(0, 1), 4);
        loom.span(1, 0, 0, 3);
        check.due("four steps at the end cost as both alone", loom.far(0, 1), 8);
        loom.span(0, 0, 2, 2);
        loom.span(1, 0, 3, 3);
        check.due("short ones stay alone", loom.far(0, 1), 1);
        loom.lay(2, 0, 0_40000004);
        check.due("all short ones alone", loom.far(2, 3), 1);
    }

    private static List<int[]> some(SpanLoom loom, int l, Dice dice, int n, int most) {
        List<int[]> made = new ArrayList<>();
        loom.lay(l, 0, 0);
        for (int k = dice.from(0, most); k > 0; k--) {
            int a = dice.from(0, n - 1);
            int b = dice.from(a, n - 1);
            loom.span(7, 0, a, b);
            if (loom.beside(l, 7, l)) {
                made.add(new int[] {a, b});
            }
        }
        for (int k = 0; k < 10; k++) {
            loom.mix(l, dice.from(0, n - 1), dice.from(0, 3), dice.from(0, 3), 1);
        }
        return made;
    }

    private static void againstAllPairings(Check check, Dice dice) {
        int n = dice.from(1, 8);
        SpanLoom loom = new SpanLoom(3, n);
        List<int[]> first = some(loom, 0, dice, n, 6);
        List<int[]> second = some(loom, 1, dice, n, 6);
        check.due("far", loom.far(0, 1), least(first, 0, second, new boolean[second.size()]));
        check.due("far back", loom.far(1, 0), loom.far(0, 1));
    }

    /** The least greatest cost when the spans from one on are paired with those not yet taken, in every way. */
    private static int least(List<int[]> first, int from, List<int[]> second, boolean[] taken) {
        if (from == first.size()) {
            int greatest = 0;
            for (int k = 0; k < taken.length; k++) {
                greatest = taken[k] ? greatest : Math.max(greatest, PlainLoom.alone(second.get(k)));
            }
            return greatest;
        }
        int[] span = first.get(from);
        int found = Math.max(PlainLoom.alone(span), least(first, from + 1, second, taken));
        for (int k = 0; k < taken.length; k++) {
            if (!taken[k]) {
                taken[k] = true;
                int cost = PlainLoom.cost(span, second.get(k));
                found = Math.min(found, Math.max(cost, least(first, from + 1, second, taken)));
                taken[k] = false;
            }
        }
        return found;
    }

    private static void manySpans(Check check, Dice dice) {
        SpanLoom loom = new SpanLoom(3, 8);
        List<int[]> first = some(loom, 0, dice, 8, 40);
        List<int[]> second = some(loom, 1, dice, 8, 40);
        int want = 0;
        while (!PlainLoom.canPair(first, second, want)) {
            want++;
        }
        check.due("far of many", loom.far(0, 1), want);
    }
}
