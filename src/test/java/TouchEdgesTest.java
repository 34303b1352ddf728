/** The edges that promise 18 names. */
public final class TouchEdgesTest {
    private static final Checks checks = new Checks("TouchEdgesTest");
    private static final int NONE = PaperKinds.NONE;
    private static final int LEAST = Integer.MIN_VALUE;
    private static final int MOST = Integer.MAX_VALUE;

    public static void main(String[] args) {
        asIfTold();
        allPages();
        asItIs();
        ofNone();
        others();
        withoutBoxes();
        nothingIsChanged();
        checks.end();
    }

    private static int[] sorted(PaperKinds papers) {
        int[] sorted = new int[papers.about(0)];
        for (int page = 0; page < sorted.length; page++) {
            sorted[page] = papers.sorted(page);
        }
        return sorted;
    }

    private static void asIfTold() {
        checks.says("How many PAGES would be SORTED otherwise if one were told to be of a KIND");
        int[] before = sorted(Example.papers());
        int most = 0;
        for (int page = 0; page < Example.PAGES; page++) {
            for (int kind = NONE; kind < 5 && page != Example.BARE_PAGE; kind++) {
                PaperKinds papers = Example.papers();
                papers.tell(page, kind);
                int[] after = sorted(papers);
                int otherwise = 0;
                for (int other = 0; other < Example.PAGES; other++) {
                    otherwise += before[other] == after[other] ? 0 : 1;
                }
                checks.due("touch(" + page + ", " + kind + ")",
                        Example.papers().touch(page, kind), otherwise);
                most = Math.max(most, otherwise);
            }
        }
        checks.due("whether some are sorted otherwise", most > 2, true);
        PaperKinds papers = new PaperKinds();
        papers.bounds(10, 10, 30);
        Checks.pageOfKind(papers, 3, 10, 10, 5);
        Checks.pageOf(papers, 10, 50, 5);
        // With page 0 the kind has y 10 in the middle as before.
        checks.due("touch(1, 3) beside another page", papers.touch(1, 3), 0);
        checks.due("touch(1, 4)", papers.touch(1, 4), 1);
    }

    private static void allPages() {
        checks.says("How many PAGES [of 16]");
        PaperKinds papers = new PaperKinds();
        papers.bounds(1000, 10, 30);
        Checks.pageOf(papers, 10, 10, 5);
        for (int page = 1; page < 16; page++) {
            checks.due("touch(0, 4) of " + page, papers.touch(0, 4), page);
            papers.page();
        }
        checks.due("touch(0, 4) of 16", papers.touch(0, 4), 16);
        papers.bounds(15, 10, 30);
        checks.due("touch(0, 4) of itself alone", papers.touch(0, 4), 1);
        papers.box(15, 10, 10, 5);
        checks.due("touch(15, 0)", papers.touch(15, 0), 2);
        papers.box(15, 40, 40, 6);
        checks.due("touch(15, 0) with a box more", papers.touch(15, 0), 1);
    }

    private static void asItIs() {
        checks.says("if one were told to be of a KIND [that it is told to be of]");
        PaperKinds papers = Example.papers();
        checks.due("touch(0, 0)", papers.touch(0, 0), 0);
        checks.due("touch(1, 1)", papers.touch(1, 1), 0);
        checks.due("touch(5, 1)", papers.touch(5, 1), 0);
        checks.due("touch(2, NONE)", papers.touch(2, NONE), 0);
    }

    private static void ofNone() {
        checks.says("(NONE: of none)");
        PaperKinds papers = new PaperKinds();
        Checks.pageOfKind(papers, 3, 10, 10, 5);
        Checks.pageOf(papers, 10, 11, 5);
        Checks.pageOf(papers, 10, 12, 5);
        checks.due("touch(0, NONE) of the only one", papers.touch(0, NONE), 3);
        papers.tell(1, 3);
        checks.due("touch(0, NONE) of one of two", papers.touch(0, NONE), 0);
        papers.tell(2, 4);
        // Of two kinds that are near every page is for a person; then of one it is sorted.
        checks.due("touch(2, NONE) of the other kind", papers.touch(2, NONE), 3);
    }

    private static void others() {
        checks.says("NONE for others");
        int[] kinds = {-2, 5, 16, LEAST, MOST};
        for (int kind : kinds) {
            checks.dueWithoutChange("touch(0, " + kind + ")", p -> p.touch(0, kind), NONE);
        }
        int[] pages = {-1, -2, Example.PAGES, 15, 16, LEAST, MOST};
        for (int page : pages) {
            checks.dueWithoutChange("touch(" + page + ", 0)", p -> p.touch(page, 0), NONE);
            checks.dueWithoutChange("touch(" + page + ", NONE)", p -> p.touch(page, NONE), NONE);
        }
    }

    private static void withoutBoxes() {
        checks.says("NONE .. without BOXES.");
        for (int kind = NONE; kind < 5; kind++) {
            int asked = kind;
            checks.dueWithoutChange("touch(4, " + kind + ")",
                    p -> p.touch(Example.BARE_PAGE, asked), NONE);
        }
        PaperKinds papers = new PaperKinds();
        papers.page();
        checks.due("touch(0, 0)", papers.touch(0, 0), NONE);
        papers.box(0, 10, 10, 5);
        checks.due("touch(0, 0) with a box", papers.touch(0, 0), 1);
    }

    private static void nothingIsChanged() {
        checks.says("Nothing is changed.");
        for (int page = 0; page < Example.PAGES; page++) {
            for (int kind = NONE; kind < 5 && page != Example.BARE_PAGE; kind++) {
                int askedPage = page;
                int askedKind = kind;
                int answer = Example.papers().touch(page, kind);
                checks.dueWithoutChange("touch(" + page + ", " + kind + ")",
                        p -> p.touch(askedPage, askedKind), answer);
                PaperKinds told = Example.papers();
                told.touch(page, kind);
                checks.due("tell() after touch()", told.tell(page, kind), true);
                checks.due("told()", told.told(page), kind);
            }
        }
    }
}
