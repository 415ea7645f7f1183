/** Compares answers with those that are due, and ends a test with exit code 1 if one was wrong. */
final class Check {
    private static final int MOST_PRINTED = 40;

    private final Document document;
    private String sentence = "";
    private int sentences = 0;
    private int madeBefore = 0;
    private int made = 0;
    private int wrong = 0;

    Check() {
        this(null);
    }

    /** Checks also that the sentences that are tested stand in the document, unless it is null. */
    Check(Document document) {
        this.document = document;
    }

    /** Begins the test of one sentence of the document; what is due until the next one begins belongs to it. */
    void sentence(String place, String words) {
        endSentence();
        sentences++;
        sentence = place + ": '" + words + "': ";
        if (document != null && !document.says(place, words)) {
            fail("the document does not say so");
        }
    }

    /** Runs tests that each begin with their sentence. One that throws is wrong, and the others run still. */
    void run(Runnable... tests) {
        for (Runnable test : tests) {
            try {
                test.run();
            } catch (RuntimeException | StackOverflowError thrown) {
                due("a call that threw " + thrown, 1, 0);
            }
        }
    }

    void due(String call, long got, long want) {
        made++;
        if (got != want) {
            fail(call + " answered " + got + ", due is " + want);
        }
    }

    void due(String call, boolean got, boolean want) {
        due(call, got ? 1 : 0, want ? 1 : 0);
    }

    void end() {
        endSentence();
        String tested = sentences == 0 ? "" : sentences + " sentences, ";
        System.out.println(tested + made + " answers, " + wrong + " wrong");
        if (wrong != 0 || made == 0) {
            System.exit(1);
        }
    }

    private void endSentence() {
        if (sentences > 0 && made == madeBefore) {
            fail("no answer was compared");
        }
        madeBefore = made;
    }

    private void fail(String what) {
        wrong++;
        if (wrong <= MOST_PRINTED) {
            System.out.println(sentence + what);
        }
    }
}
