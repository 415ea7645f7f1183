import java.io.IOException;

/**
 * 'What it is', 'Not promised', 'What is refused changes nothing.' and NONE: a test for each sentence that names an
 * edge, called by its place and its words.
 */
public final class EdgesOfUseTest {
    private static final int MOST_CALLS = 512;
    private static final int[] BEYOND = {Integer.MIN_VALUE, -1, 0, 1, 3, 8, Integer.MAX_VALUE};

    private final Check check;

    private EdgesOfUseTest(Check check) {
        this.check = check;
    }

    public static void main(String[] args) throws IOException {
        EdgesOfUseTest test = new EdgesOfUseTest(new Check(Document.given(args)));
        test.check.run(
                test::theLastCallIsAnsweredToo, test::laterCallsAreFree, test::nothingAfterTheLastCall,
                test::onlyOneLayingChanges, test::objectsAreApart, test::askingChangesNothing, test::refusedLay,
                test::refusedSet, test::refusedSpan, test::refusedBeside, test::refusedMix, test::refusedTurn,
                test::refusedQuestions, test::none);
        test.check.end();
    }

    private void theLastCallIsAnsweredToo() {
        check.sentence("What it is", "An object is used for at most 512 calls after it has been made");
        Call[] last = lastCalls();
        long[] want = {1, 1, 2, 2, 0, 1, 1, 1, 1, 3, 0, 3, 1, 1, 2, 3, 1, 36, 5};
        check.due("all methods", last.length, want.length);
        for (int k = 0; k < last.length; k++) {
            SpanLoom loom = laid();
            for (int call = 4; call < MOST_CALLS - 1; call++) {
                busy(loom, call);
            }
            check.due("the 512th call, method " + k, last[k].on(loom), want[k]);
        }
    }

    /** Free answers are answers still: LANGUAGE.md's rule 7 lets no call throw. */
    private void laterCallsAreFree() {
        check.sentence("What it is", "what later calls answer is free");
        SpanLoom loom = laid();
        for (int call = 4; call < 4 * MOST_CALLS; call++) {
            busy(loom, call);
        }
        check.due("calls that ended", true, true);
    }

    private void nothingAfterTheLastCall() {
        check.sentence("Not promised", "nothing about an object after its 512th call");
        SpanLoom loom = laid();
        for (int call = 4; call < MOST_CALLS; call++) {
            busy(loom, call);
        }
        for (Call call : lastCalls()) {
            call.on(loom);
        }
        for (int v : BEYOND) {
            loom.lay(v, v, v);
            loom.set(v, v, v, v, v);
            loom.turn(v, v, v);
        }
        check.due("calls that ended", true, true);
    }

    private void onlyOneLayingChanges() {
        check.sentence("Not promised", "Nothing is promised beyond the answers and state changes described above");
        Call[] changes = {
            Call.of(loom -> loom.lay(6, 1, 0_111)),
            Call.of(loom -> loom.set(6, 0, 0, 1, 0)),
            Call.of(loom -> loom.span(6, 0, 0, 2)),
            Call.of(loom -> loom.mix(6, 0, 0, 1, 2)),
            loom -> loom.turn(6, 1, 6),
            Call.of(loom -> loom.beside(5, 5, 6)),
        };
        for (int k = 0; k < changes.length; k++) {
            SpanLoom loom = Looms.full();
            String[] before = Looms.seen(loom).split("\n");
            check.due("change " + k + " is made", changes[k].on(loom) > 0, true);
            String[] after = Looms.seen(loom).split("\n");
            for (int line = 0; line < before.length; line++) {
                check.due("change " + k + " leaves laying " + line, before[line].equals(after[line]), line != 6);
            }
        }
    }

    private void objectsAreApart() {
        check.sentence("Not promised", "Nothing is promised beyond the answers and state changes described above");
        SpanLoom one = Looms.full();
        String before = Looms.seen(one);
        SpanLoom other = new SpanLoom(13, 8);
        for (int l = 0; l < Looms.LAYINGS; l++) {
            other.lay(l, 85, 0_44444444);
            other.set(l, 0, 0, 0, 12);
            other.mix(l, 0, 0, 1, 5);
        }
        other.turn(1, 1, 2);
        other.maps(0, 1);
        other.kind(9, 0);
        check.due("the one is as before", Looms.seen(one).equals(before), true);
        check.due("its spans, too", one.spans(5, 0, 0), Looms.full().spans(5, 0, 0));
        check.due("the other has its own", other.count(0), 13);
    }

    private void askingChangesNothing() {
        check.sentence("Not promised", "Nothing is promised beyond the answers and state changes described above");
        for (int l = 0; l < Looms.LAYINGS; l++) {
            int a = l;
            int b = Looms.LAYINGS - 1 - l;
            SpanLoom loom = Looms.full();
            String before = Looms.seen(loom);
            Call[] questions = {
                x -> x.maps(a, a), x -> x.maps(a, b), x -> x.bends(a, a), x -> x.form(a, b), x -> x.spans(a, 0, 2),
                x -> x.spans(a, 1, 1), Call.of(x -> x.like(a, a)), Call.of(x -> x.like(a, b)), x -> x.rank(a, 0, 2),
                x -> x.rank(a, 2, 1), x -> x.far(a, a), x -> x.far(a, b), x -> x.kind(b, a), x -> x.roots(b, a),
            };
            for (Call question : questions) {
                long answer = question.on(loom);
                check.due("asked again", question.on(loom), answer);
            }
            check.due("all is as before", Looms.seen(loom).equals(before), true);
        }
    }

    private void refusedLay() {
        refused("lay", 0,
                Call.of(loom -> loom.lay(-1, 0, 0)), Call.of(loom -> loom.lay(8, 0, 0)),
                Call.of(loom -> loom.lay(0, 4, 0)), Call.of(loom -> loom.lay(0, -1, 0_111)),
                Call.of(loom -> loom.lay(0, 3, 0_511)), Call.of(loom -> loom.lay(0, 3, 0_115)),
                Call.of(loom -> loom.lay(0, 3, 0_1111)), Call.of(loom -> loom.lay(0, 3, -1)));
    }

    private void refusedSet() {
        refused("set", 0,
                Call.of(loom -> loom.set(-1, 0, 0, 0, 0)), Call.of(loom -> loom.set(8, 0, 0, 0, 0)),
                Call.of(loom -> loom.set(0, -1, 0, 0, 0)), Call.of(loom -> loom.set(0, 2, 0, 0, 0)),
                Call.of(loom -> loom.set(0, 0, -1, 1, 0)), Call.of(loom -> loom.set(0, 0, 2, 0, 0)),
                Call.of(loom -> loom.set(0, 0, 1, -1, 0)), Call.of(loom -> loom.set(0, 0, 0, 2, 0)),
                Call.of(loom -> loom.set(0, 0, 4, 0, 0)), Call.of(loom -> loom.set(0, 0, 0, 4, 0)));
    }

    private void refusedSpan() {
        refused("span", 0,
                Call.of(loom -> loom.span(-1, 0, 0, 0)), Call.of(loom -> loom.span(8, 0, 0, 0)),
                Call.of(loom -> loom.span(0, 4, 0, 2)), Call.of(loom -> loom.span(0, -1, 0, 2)),
                Call.of(loom -> loom.span(0, 0, -1, 2)), Call.of(loom -> loom.span(0, 0, 3, 3)),
                Call.of(loom -> loom.span(0, 0, 0, 3)), Call.of(loom -> loom.span(0, 0, 2, 1)));
    }

    /** Laying 5 has places left; 1 has its ways, but is full at a post; 0 has places left, but other ways. */
    private void refusedBeside() {
        refused("beside", 0,
                Call.of(loom -> loom.beside(-1, 5, 6)), Call.of(loom -> loom.beside(8, 5, 6)),
                Call.of(loom -> loom.beside(5, -1, 6)), Call.of(loom -> loom.beside(5, 8, 6)),
                Call.of(loom -> loom.beside(5, 5, -1)), Call.of(loom -> loom.beside(5, 5, 8)),
                Call.of(loom -> loom.beside(5, 0, 6)), Call.of(loom -> loom.beside(0, 5, 6)),
                Call.of(loom -> loom.beside(5, 0, 5)), Call.of(loom -> loom.beside(0, 5, 5)),
                Call.of(loom -> loom.beside(1, 5, 6)), Call.of(loom -> loom.beside(5, 1, 6)),
                Call.of(loom -> loom.beside(1, 5, 5)), Call.of(loom -> loom.beside(5, 1, 5)));
    }

    private void refusedMix() {
        refused("mix", 0,
                Call.of(loom -> loom.mix(-1, 0, 0, 1, 1)), Call.of(loom -> loom.mix(8, 0, 0, 1, 1)),
                Call.of(loom -> loom.mix(0, -1, 0, 1, 1)), Call.of(loom -> loom.mix(0, 3, 0, 1, 1)),
                Call.of(loom -> loom.mix(0, 1, -1, 1, 1)), Call.of(loom -> loom.mix(0, 1, 2, 1, 1)),
                Call.of(loom -> loom.mix(0, 1, 1, -1, 1)), Call.of(loom -> loom.mix(0, 1, 1, 2, 1)),
                Call.of(loom -> loom.mix(0, 1, 1, 1, 1)), Call.of(loom -> loom.mix(0, 1, 0, 1, 5)),
                Call.of(loom -> loom.mix(0, 1, 0, 1, -1)));
    }

    /** The layings 0 and 3 lead through post 1. */
    private void refusedTurn() {
        refused("turn", SpanLoom.NONE,
                loom -> loom.turn(-1, 0, 0), loom -> loom.turn(8, 0, 0), loom -> loom.turn(0, -1, 0),
                loom -> loom.turn(0, 3, 0), loom -> loom.turn(0, 0, -1), loom -> loom.turn(0, 0, 8),
                loom -> loom.turn(0, 1, 0), loom -> loom.turn(0, 1, 6), loom -> loom.turn(3, 1, 2));
        SpanLoom loom = new SpanLoom(5, 3);
        loom.lay(0, 2, 0_303);
        loom.span(1, 1, 0, 2);
        unchanged(loom, "turn to a size of 6", SpanLoom.NONE, x -> x.turn(0, 1, 0));
        unchanged(loom, "turn to a size of 6, elsewhere", SpanLoom.NONE, x -> x.turn(0, 1, 1));
        SpanLoom single = new SpanLoom(5, 1);
        single.lay(0, 0, 3);
        unchanged(single, "turn where N is 1", SpanLoom.NONE, x -> x.turn(0, 0, 1));
    }

    private void refusedQuestions() {
        refused("questions", SpanLoom.NONE,
                loom -> loom.get(8, 0, 0, 0), loom -> loom.size(8, 0), loom -> loom.ways(8), loom -> loom.maps(0, 8),
                loom -> loom.bends(8, 0), loom -> loom.spans(0, 2, 1), loom -> loom.rank(0, 2, 0),
                loom -> loom.far(1, 0), loom -> loom.kind(3, 20), loom -> loom.roots(10, 0), loom -> loom.count(2));
    }

    private void refused(String name, long answer, Call... calls) {
        check.sentence("Terms", "What is refused changes nothing.");
        for (int k = 0; k < calls.length; k++) {
            unchanged(Looms.full(), name + " " + k, answer, calls[k]);
        }
    }

    private void unchanged(SpanLoom loom, String name, long answer, Call call) {
        String before = Looms.seen(loom);
        check.due(name, call.on(loom), answer);
        check.due("all is as before after " + name, Looms.seen(loom).equals(before), true);
    }

    private void none() {
        check.sentence("Terms", "`NONE = -1`: There is none.");
        check.due("NONE", SpanLoom.NONE, -1);
        check.due("a size that there is none of", new SpanLoom(2, 1).size(0, 1), -1);
    }

    /** Laying 0 has a number of each kind in four calls. */
    private static SpanLoom laid() {
        SpanLoom loom = new SpanLoom(5, 3);
        loom.lay(0, 0, 0_221);
        loom.set(0, 0, 0, 0, 1);
        loom.set(0, 1, 0, 0, 1);
        loom.set(0, 1, 1, 1, 2);
        return loom;
    }

    /** A call that leaves the layings 0 to 3 as they are. */
    private static void busy(SpanLoom loom, int call) {
        int l = 4 + call % 4;
        switch (call % 19) {
            case 0 -> loom.lay(l, call % 5, call * 8);
            case 1 -> loom.set(l, call % 3, call % 4, call % 5, call);
            case 2 -> loom.span(l, call % 4, 0, call % 3);
            case 3 -> loom.beside(l, 4, 5);
            case 4 -> loom.mix(l, call % 3, 0, 1, call % 5);
            case 5 -> loom.turn(l, call % 3, 6);
            case 6 -> loom.get(l, 0, 0, 0);
            case 7 -> loom.size(l, 1);
            case 8 -> loom.ways(l);
            case 9 -> loom.maps(l, 0);
            case 10 -> loom.bends(0, l);
            case 11 -> loom.form(l, l);
            case 12 -> loom.spans(l, 0, 1);
            case 13 -> loom.like(l, 4);
            case 14 -> loom.rank(l, 0, 2);
            case 15 -> loom.far(l, 0);
            case 16 -> loom.kind(9, call);
            case 17 -> loom.roots(9, call);
            default -> loom.count(call % 4);
        }
    }

    private static Call[] lastCalls() {
        return new Call[] {
            Call.of(loom -> loom.lay(1, 3, 0_421)),
            Call.of(loom -> loom.set(0, 1, 1, 0, -1)),
            loom -> loom.get(0, 1, 1, 1),
            loom -> loom.size(0, 1),
            loom -> loom.ways(0),
            Call.of(loom -> loom.span(1, 2, 0, 2)),
            Call.of(loom -> loom.beside(0, 0, 1)),
            Call.of(loom -> loom.mix(0, 1, 0, 1, 4)),
            loom -> loom.turn(0, 0, 1),
            loom -> loom.maps(0, 0),
            loom -> loom.bends(0, 0),
            loom -> loom.form(0, 0),
            loom -> loom.spans(0, 1, 2),
            Call.of(loom -> loom.like(0, 0)),
            loom -> loom.rank(0, 1, 2),
            loom -> loom.far(0, 1),
            loom -> loom.kind(6, 23210),
            loom -> loom.roots(6, 23210),
            loom -> loom.count(0),
        };
    }
}
