/** Counts and prints the calls of one test whose answers are not the ones that are due. */
final class Checks {
    private final String test;
    private int wrong = 0;
    private int asked = 0;

    Checks(String test) {
        this.test = test;
    }

    void due(String call, long got, long want) {
        asked++;
        if (got != want) {
            wrong++;
            System.out.println(test + ": " + call + " answered " + got + ", due is " + want);
        }
    }

    void due(String call, boolean got, boolean want) {
        due(call, got ? 1 : 0, want ? 1 : 0);
    }

    int wrong() {
        return wrong;
    }

    void end() {
        System.out.println(test + ": " + asked + " answers, " + wrong + " not as due");
        if (wrong != 0 || asked == 0) {
            System.exit(1);
        }
    }

    /** A new page with boxes, each told by x, y and code. */
    static int pageOf(PaperKinds papers, int... boxes) {
        int page = papers.page();
        for (int i = 0; i + 2 < boxes.length; i += 3) {
            papers.box(page, boxes[i], boxes[i + 1], boxes[i + 2]);
        }
        return page;
    }

    /** A new page with boxes that is told to be of a kind. */
    static int pageOfKind(PaperKinds papers, int kind, int... boxes) {
        int page = pageOf(papers, boxes);
        papers.tell(page, kind);
        return page;
    }
}
