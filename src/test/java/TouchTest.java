/** Promise 18: touch. */
public final class TouchTest {
    private static final Checks checks = new Checks("TouchTest");
    private static final int NONE = PaperKinds.NONE;

    public static void main(String[] args) {
        firstKind();
        fromKindToKind();
        nothingChanges();
        wrongQuestions();
        checks.end();
    }

    private static void firstKind() {
        PaperKinds papers = new PaperKinds();
        Checks.pageOf(papers, 10, 10, 5);
        Checks.pageOf(papers, 10, 11, 5);
        Checks.pageOf(papers, 50, 50, 9, 40, 40, 8, 30, 30, 7, 20, 20, 6, 1, 1, 1, 2, 2, 2,
                3, 3, 3);
        checks.due("all that come near, itself too", papers.touch(0, 2), 2);
        papers.bounds(1000, 10, 30);
        checks.due("all", papers.touch(0, 2), 3);
        checks.due("told of none already", papers.touch(0, NONE), 0);
    }

    private static void fromKindToKind() {
        PaperKinds papers = new PaperKinds();
        Checks.pageOfKind(papers, 0, 10, 10, 5);
        Checks.pageOfKind(papers, 1, 10, 50, 5);
        Checks.pageOf(papers, 10, 11, 5);
        Checks.pageOf(papers, 10, 51, 5);
        checks.due("as it is told", papers.touch(0, 0), 0);
        checks.due("another number for a kind", papers.touch(0, 2), 2);
        // Then kind 1 has y 10 in the middle, and nothing is near y 50.
        papers.bounds(10, 10, 30);
        checks.due("both of one kind", papers.touch(0, 1), 4);
        checks.due("none told of a kind", papers.touch(1, NONE), 2);
        papers.tell(1, NONE);
        checks.due("none told of any kind", papers.touch(0, NONE), 2);
    }

    private static void nothingChanges() {
        PaperKinds papers = new PaperKinds();
        Checks.pageOfKind(papers, 0, 10, 10, 5);
        Checks.pageOfKind(papers, 1, 10, 50, 5);
        Checks.pageOf(papers, 10, 12, 5);
        int cost = papers.lay(2, 0, 0);
        for (int kind = NONE; kind < 5; kind++) {
            papers.touch(0, kind);
            papers.touch(2, kind);
            checks.due("told(0)", papers.told(0), 0);
            checks.due("told(2)", papers.told(2), NONE);
            checks.due("kind(0, 0)", papers.kind(0, 0), 1);
            checks.due("kind(1, 0)", papers.kind(1, 0), 1);
            checks.due("kind(2, 0)", papers.kind(2, 0), 0);
            checks.due("spot(0, 0, 2)", papers.spot(0, 0, 2), 10);
            checks.due("lay(2, 0, 0)", papers.lay(2, 0, 0), cost);
            checks.due("lay(2, 2, 0)", papers.lay(2, 2, 0), NONE);
            checks.due("sorted(2)", papers.sorted(2), 0);
        }
    }

    private static void wrongQuestions() {
        PaperKinds papers = new PaperKinds();
        papers.page();
        Checks.pageOf(papers, 1, 1, 1);
        checks.due("without boxes", papers.touch(0, 0), NONE);
        checks.due("without boxes, of none", papers.touch(0, NONE), NONE);
        int[] wrong = {-2, 5, 16, Integer.MIN_VALUE, Integer.MAX_VALUE};
        for (int number : wrong) {
            checks.due("touch(1, n)", papers.touch(1, number), NONE);
            checks.due("touch(n, 0)", papers.touch(number, 0), NONE);
        }
        checks.due("touch(-1, 0)", papers.touch(-1, 0), NONE);
        checks.due("touch(2, 0)", papers.touch(2, 0), NONE);
    }
}
