/** Promises 12 and 14: sorted, look. */
public final class SortedTest {
    private static final Checks checks = new Checks("SortedTest");
    private static final int NONE = PaperKinds.NONE;
    private static final int UNKNOWN = 10;
    private static final int PERSON = 11;

    public static void main(String[] args) {
        limit();
        gap();
        likeKinds();
        emptyKinds();
        look();
        wrongPages();
        checks.end();
    }

    private static void limit() {
        PaperKinds papers = new PaperKinds();
        Checks.pageOf(papers, 10, 10, 5);
        checks.due("no kinds", papers.sorted(0), UNKNOWN);
        Checks.pageOfKind(papers, 3, 10, 10, 6);
        checks.due("20 of 60", papers.sorted(0), 3);
        papers.bounds(20, 10, 30);
        checks.due("20 of 20", papers.sorted(0), 3);
        papers.bounds(19, 10, 30);
        checks.due("20 of 19", papers.sorted(0), UNKNOWN);
        checks.due("a told one, too", papers.sorted(1), 3);
        papers.bounds(0, 1000, 30);
        checks.due("one kind alone has no next one", papers.sorted(1), 3);
    }

    private static void gap() {
        PaperKinds papers = new PaperKinds();
        Checks.pageOfKind(papers, 1, 10, 10, 5);
        Checks.pageOfKind(papers, 4, 10, 40, 5);
        Checks.pageOf(papers, 10, 13, 5);
        // 3 on kind 1; on kind 4 the box isn't laid: 24.
        checks.due("lay(2, 1, 0)", papers.lay(2, 1, 0), 3);
        checks.due("lay(2, 4, 0)", papers.lay(2, 4, 0), 24);
        papers.bounds(60, 21, 30);
        checks.due("21 above is not less than 21", papers.sorted(2), 1);
        papers.bounds(60, 22, 30);
        checks.due("21 above is less than 22", papers.sorted(2), PERSON);
        papers.bounds(2, 22, 30);
        checks.due("above the limit it is unknown", papers.sorted(2), UNKNOWN);
        papers.bounds(3, 22, 30);
        checks.due("the next one may be above the limit", papers.sorted(2), PERSON);
        Checks.pageOf(papers, 10, 43, 5);
        checks.due("the next one may be a lower kind", papers.sorted(3), PERSON);
        papers.bounds(3, 21, 30);
        checks.due("and far enough above", papers.sorted(3), 4);
        papers.bounds(3, 22, 30);
        papers.tell(2, 4);
        checks.due("told ones are asked so, too", papers.sorted(0), PERSON);
    }

    private static void likeKinds() {
        PaperKinds papers = new PaperKinds();
        Checks.pageOfKind(papers, 4, 10, 10, 5);
        Checks.pageOfKind(papers, 2, 10, 10, 5);
        checks.due("like costs are for a person", papers.sorted(0), PERSON);
        papers.bounds(60, 1, 30);
        checks.due("with gap 1", papers.sorted(0), PERSON);
        papers.bounds(60, 0, 30);
        checks.due("with gap 0 the lowest", papers.sorted(0), 2);
        Checks.pageOfKind(papers, 0, 10, 11, 5);
        checks.due("a lower kind that costs more", papers.sorted(0), 2);
        checks.due("of its own", papers.sorted(2), 0);
    }

    private static void emptyKinds() {
        PaperKinds papers = new PaperKinds();
        papers.page();
        checks.due("without boxes or kinds", papers.sorted(0), UNKNOWN);
        Checks.pageOfKind(papers, 1, 10, 10, 5);
        checks.due("without boxes, 16", papers.sorted(0), 1);
        Checks.pageOfKind(papers, 2, 10, 10, 5);
        Checks.pageOfKind(papers, 2, 10, 10, 6);
        Checks.pageOfKind(papers, 2, 10, 10, 7);
        checks.due("a kind without spots is asked", papers.sorted(0), 2);
        papers.tell(1, NONE);
        checks.due("by extra boxes alone", papers.sorted(1), 2);
    }

    private static void look() {
        PaperKinds papers = new PaperKinds();
        Checks.pageOfKind(papers, 0, 10, 10, 5);
        Checks.pageOfKind(papers, 1, 10, 16, 5);
        checks.due("none", papers.look(), NONE);
        Checks.pageOf(papers, 10, 11, 5);
        Checks.pageOf(papers, 10, 12, 5);
        Checks.pageOf(papers, 10, 14, 5);
        checks.due("sorted(2)", papers.sorted(2), PERSON);
        checks.due("sorted(3)", papers.sorted(3), PERSON);
        checks.due("1 and 5, 2 and 4, 4 and 2: the lowest of like ones", papers.look(), 3);
        Checks.pageOf(papers, 10, 13, 5);
        checks.due("3 and 3", papers.look(), 5);
        papers.tell(5, 2);
        checks.due("told ones aren't looked at", papers.told(papers.look()), NONE);
        papers.tell(5, NONE);
        papers.bounds(2, 10, 30);
        checks.due("unknown ones aren't either", papers.look(), 3);
        papers.bounds(60, 2, 30);
        checks.due("only the last is for a person", papers.look(), 5);
        papers.bounds(60, 0, 30);
        checks.due("nobody is for a person", papers.look(), NONE);
    }

    private static void wrongPages() {
        PaperKinds papers = new PaperKinds();
        papers.page();
        int[] wrong = {-2, -1, 1, 16, Integer.MIN_VALUE, Integer.MAX_VALUE};
        for (int page : wrong) {
            checks.due("sorted(" + page + ")", papers.sorted(page), NONE);
        }
    }
}
