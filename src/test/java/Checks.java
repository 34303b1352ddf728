import java.util.function.ToLongFunction;

/** Counts and prints the calls of one test whose answers are not the ones that are due. */
final class Checks {
    private final String test;
    private String sentence = "";
    private int askedOfSentence = 1;
    private int wrong = 0;
    private int asked = 0;

    Checks(String test) {
        this.test = test;
    }

    /**
     * The words of the document that the next answers are asked for, down to the next such: two
     * points stand for words left out, square brackets hold a case that the words take in.
     */
    void says(String words) {
        if (askedOfSentence == 0) {
            due("a sentence that nothing was asked for", true, false);
        }
        sentence = " \"" + words + "\"";
        askedOfSentence = 0;
    }

    void due(String call, long got, long want) {
        asked++;
        askedOfSentence++;
        if (got != want) {
            wrong++;
            System.out.println(test + sentence + ": " + call + " answered " + got
                    + ", due is " + want);
        }
    }

    void due(String call, boolean got, boolean want) {
        due(call, got ? 1 : 0, want ? 1 : 0);
    }

    /** A call that must answer what is due and leave every answer as it was. */
    void dueWithoutChange(String call, ToLongFunction<PaperKinds> asking, long want) {
        PaperKinds papers = Example.papers();
        due(call, asking.applyAsLong(papers), want);
        boolean same = Example.answers(papers).equals(Example.answers(Example.papers()));
        due("whether all answers after " + call + " are as before", same, true);
    }

    int wrong() {
        return wrong;
    }

    void end() {
        says("the end");
        System.out.println(test + ": " + asked + " answers, " + wrong + " not as due");
        if (wrong != 0 || asked == 0) {
            System.exit(1);
        }
    }

    /** A new page with boxes, each told by x, y and code. */
    static int pageOf(PaperKinds papers, int... boxes) {
        int page = papers.page();
        for (int i = 0; i + 2 < boxes.length; i += 3) {
            papers.box(page, boxes[i], boxes[i + 1], boxes[i + 2]);
        }
        return page;
    }

    /** A new page with boxes that is told to be of a kind. */
    static int pageOfKind(PaperKinds papers, int kind, int... boxes) {
        int page = pageOf(papers, boxes);
        papers.tell(page, kind);
        return page;
    }

    /** A new page with a number of boxes of rising codes, all in one place. */
    static int pageOfMany(PaperKinds papers, int boxes, int x, int y, int firstCode) {
        int page = papers.page();
        for (int box = 0; box < boxes; box++) {
            papers.box(page, x, y, firstCode + box);
        }
        return page;
    }
}
