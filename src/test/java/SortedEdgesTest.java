/** The edges that promises 12 and 14 name, and the terms SORTED and THE LOOK. */
public final class SortedEdgesTest {
    private static final Checks checks = new Checks("SortedEdgesTest");
    private static final int NONE = PaperKinds.NONE;
    private static final int LEAST = Integer.MIN_VALUE;
    private static final int MOST = Integer.MAX_VALUE;
    private static final int UNKNOWN = 10;
    private static final int PERSON = 11;

    public static void main(String[] args) {
        notAboveLimit();
        likeOnes();
        lessThanGap();
        anyOtherOne();
        aboveLimitFirst();
        noSuchKind();
        toldOnesToo();
        allKindsWithPages();
        noSuchPage();
        lookNotTold();
        lookForPerson();
        lookTwoLeast();
        lookLikeOnes();
        lookNone();
        checks.end();
    }

    /** Each kind gets a page of one box at its own y; a page costs what it is off. */
    private static PaperKinds kindsAt(int... ys) {
        PaperKinds papers = new PaperKinds();
        papers.weights(9, 1, 99, 99, 99);
        for (int kind = 0; kind < ys.length; kind++) {
            if (ys[kind] >= 0) {
                Checks.pageOfKind(papers, kind, 10, ys[kind], 5);
            }
        }
        return papers;
    }

    private static int pageAt(PaperKinds papers, int y) {
        return Checks.pageOf(papers, 10, y, 5);
    }

    private static void notAboveLimit() {
        checks.says("its KIND is the one of the least COST .. if that is not above LIMIT");
        PaperKinds papers = kindsAt(-1, 10);
        int page = pageAt(papers, 17);
        for (int limit = 0; limit <= 9; limit++) {
            papers.bounds(limit, 10, 30);
            checks.due("7 of " + limit, papers.sorted(page), limit >= 7 ? 1 : UNKNOWN);
        }
    }

    private static void likeOnes() {
        checks.says("the least COST (of like ones the lowest)");
        PaperKinds papers = kindsAt(50, 10, -1, 10, 10);
        papers.bounds(60, 0, 30);
        checks.due("1, 3 and 4 alike", papers.sorted(pageAt(papers, 10)), 1);
        checks.due("off by 1 each", papers.sorted(pageAt(papers, 11)), 1);
        papers.tell(1, NONE);
        checks.due("3 and 4 alike", papers.sorted(pageAt(papers, 12)), 3);
    }

    private static void lessThanGap() {
        checks.says("no other one's is less than GAP .. above it .. else for a PERSON");
        PaperKinds papers = kindsAt(10, 30);
        // 8 and 12 off: 4 above.
        int page = pageAt(papers, 18);
        int other = pageAt(papers, 22);
        for (int gap = 0; gap <= 6; gap++) {
            papers.bounds(60, gap, 30);
            checks.due("4 of " + gap, papers.sorted(page), gap <= 4 ? 0 : PERSON);
            checks.due("4 of " + gap + ", by a lower one", papers.sorted(other),
                    gap <= 4 ? 1 : PERSON);
        }
        int middle = pageAt(papers, 20);
        papers.bounds(60, 0, 30);
        checks.due("0 of 0", papers.sorted(middle), 0);
        papers.bounds(60, 1, 30);
        checks.due("0 of 1", papers.sorted(middle), PERSON);
    }

    private static void anyOtherOne() {
        checks.says("no other one's");
        for (int near = 0; near < 5; near++) {
            for (int best = 0; best < 5; best++) {
                int[] ys = {60, 60, 60, 60, 60};
                ys[near] = 15;
                ys[best] = 10;
                PaperKinds papers = kindsAt(ys);
                int page = pageAt(papers, 10);
                papers.bounds(60, 6, 30);
                checks.due("5 of 6", papers.sorted(page), near == best ? best : PERSON);
                papers.bounds(60, 5, 30);
                checks.due("5 of 5", papers.sorted(page), best);
            }
        }
        PaperKinds alone = kindsAt(-1, -1, 10);
        alone.bounds(0, 1000, 0);
        checks.due("without another one", alone.sorted(0), 2);
    }

    private static void aboveLimitFirst() {
        checks.says("Else it is UNKNOWN, if the least COST is above LIMIT");
        PaperKinds papers = kindsAt(10, 12);
        int page = pageAt(papers, 13);
        papers.bounds(1, 10, 30);
        checks.due("least at LIMIT, next above it", papers.sorted(page), PERSON);
        papers.bounds(0, 10, 30);
        checks.due("both above LIMIT", papers.sorted(page), UNKNOWN);
        papers.bounds(0, 1000, 30);
        checks.due("both above LIMIT, GAP 1000", papers.sorted(page), UNKNOWN);
        papers.bounds(0, 0, 30);
        checks.due("both above LIMIT, GAP 0", papers.sorted(page), UNKNOWN);
    }

    private static void noSuchKind() {
        checks.says("or there is no such KIND");
        PaperKinds papers = new PaperKinds();
        papers.bounds(1000, 0, 30);
        papers.page();
        pageAt(papers, 10);
        checks.due("without boxes", papers.sorted(0), UNKNOWN);
        checks.due("with one", papers.sorted(1), UNKNOWN);
        papers.tell(1, 3);
        checks.due("without boxes, a kind", papers.sorted(0), 3);
        checks.due("with one, a kind", papers.sorted(1), 3);
        papers.tell(1, NONE);
        checks.due("without boxes, no more", papers.sorted(0), UNKNOWN);
        checks.due("with one, no more", papers.sorted(1), UNKNOWN);
    }

    private static void toldOnesToo() {
        checks.says("told ones, too, are asked so");
        PaperKinds papers = kindsAt(10, 50);
        int page = pageAt(papers, 12);
        papers.tell(page, 1);
        papers.tell(pageAt(papers, 52), 1);
        checks.due("told of 1, near to 0", papers.sorted(page), 0);
        papers.bounds(1, 10, 30);
        checks.due("told of 1, unknown", papers.sorted(page), UNKNOWN);
        papers.bounds(60, 37, 30);
        checks.due("told of 1, for a person", papers.sorted(page), PERSON);
    }

    private static void allKindsWithPages() {
        checks.says("on all KINDS that have PAGES told");
        PaperKinds papers = new PaperKinds();
        Checks.pageOfKind(papers, 4, 10, 10, 1);
        Checks.pageOfKind(papers, 4, 10, 10, 2);
        Checks.pageOfKind(papers, 4, 10, 10, 3);
        int page = pageAt(papers, 10);
        checks.due("kind(4, 1)", papers.kind(4, 1), 0);
        papers.bounds(8, 10, 30);
        checks.due("one without spots: EXTRA 8 of 8", papers.sorted(page), 4);
        papers.bounds(7, 10, 30);
        checks.due("one without spots: EXTRA 8 of 7", papers.sorted(page), UNKNOWN);
        Checks.pageOfKind(papers, 0, 10, 10, 5);
        papers.bounds(60, 9, 30);
        checks.due("it is another one: 8 of 9", papers.sorted(page), PERSON);
        papers.bounds(60, 8, 30);
        checks.due("it is another one: 8 of 8", papers.sorted(page), 0);
    }

    private static void noSuchPage() {
        checks.says("the KIND; 10 UNKNOWN, 11 for a PERSON. NONE: no such PAGE.");
        PaperKinds papers = Example.papers();
        int[] sorted = {0, PERSON, PERSON, UNKNOWN, UNKNOWN, 1};
        for (int page = 0; page < Example.PAGES; page++) {
            checks.due("sorted(" + page + ")", papers.sorted(page), sorted[page]);
        }
        int[] others = {-1, -2, Example.PAGES, 15, 16, LEAST, MOST};
        for (int page : others) {
            checks.due("sorted(" + page + ")", papers.sorted(page), NONE);
        }
    }

    private static void lookNotTold() {
        checks.says("of the PAGES that aren't told");
        PaperKinds papers = kindsAt(10, 14);
        int middle = pageAt(papers, 12);
        int beside = pageAt(papers, 13);
        checks.due("look()", papers.look(), middle);
        papers.tell(middle, 2);
        papers.bounds(60, 5, 30);
        checks.due("sorted() of the told one", papers.sorted(middle), PERSON);
        checks.due("look() when it is told", papers.look(), beside);
        papers.tell(beside, 2);
        checks.due("look() when both are told", papers.look(), NONE);
        papers.tell(beside, NONE);
        checks.due("look() when it is told no more", papers.look(), beside);
    }

    private static void lookForPerson() {
        checks.says("and are for a PERSON");
        PaperKinds papers = kindsAt(10, 30, 50, 53);
        int unknown = pageAt(papers, 20);
        int person = pageAt(papers, 51);
        papers.bounds(9, 10, 30);
        checks.due("sorted() of one whose costs are alike", papers.sorted(unknown), UNKNOWN);
        checks.due("look()", papers.look(), person);
        papers.bounds(10, 10, 30);
        checks.due("look() if the first is for a person", papers.look(), unknown);
        papers.bounds(9, 1, 30);
        checks.due("look() if nobody is", papers.look(), NONE);
    }

    private static void lookTwoLeast() {
        checks.says("the one whose two least COSTS differ least");
        PaperKinds papers = kindsAt(10, 20, 60);
        // 2, 8 and 48; 4, 6 and 44.
        pageAt(papers, 12);
        int second = pageAt(papers, 14);
        checks.due("6 and 2", papers.look(), second);
        // 6, 4 and 34: as much as the second, but behind it.
        pageAt(papers, 16);
        checks.due("6, 2 and 2", papers.look(), second);
        // 29, 19 and 21: its costs are the greatest.
        papers.bounds(60, 1000, 30);
        int greatest = pageAt(papers, 39);
        checks.due("lay(p, 1, 0)", papers.lay(greatest, 1, 0), 19);
        checks.due("6, 2, 2 and 2", papers.look(), second);
        int last = pageAt(papers, 40);
        checks.due("6, 2, 2, 2 and 0", papers.look(), last);
    }

    private static void lookLikeOnes() {
        checks.says("of like ones the lowest");
        PaperKinds papers = kindsAt(10, 20);
        for (int page = 2; page < 16; page++) {
            pageAt(papers, page % 2 == 0 ? 16 : 14);
        }
        for (int page = 2; page < 16; page++) {
            checks.due("look()", papers.look(), page);
            // The spot of another code keeps kind 4 far from those that are left.
            papers.box(page, 63, 63, 9);
            papers.tell(page, 4);
        }
        checks.due("look() at last", papers.look(), NONE);
    }

    private static void lookNone() {
        checks.says("THE LOOK. NONE if there is none.");
        PaperKinds papers = new PaperKinds();
        checks.due("without pages", papers.look(), NONE);
        papers.page();
        checks.due("without kinds", papers.look(), NONE);
        Checks.pageOfKind(papers, 0, 10, 10, 5);
        checks.due("with one kind", papers.look(), NONE);
        Checks.pageOfKind(papers, 1, 10, 10, 5);
        checks.due("a page without boxes and two kinds", papers.look(), 0);
        papers.bounds(15, 10, 30);
        checks.due("a page without boxes, unknown", papers.look(), NONE);
        papers.bounds(60, 0, 30);
        checks.due("GAP 0", papers.look(), NONE);
    }
}
