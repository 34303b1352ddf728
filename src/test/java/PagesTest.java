/** Promises 1 to 3 and 19: a new object, page, box, about. */
public final class PagesTest {
    private static final Checks checks = new Checks("PagesTest");

    public static void main(String[] args) {
        newObject();
        pages();
        boxes();
        boxesOfToldPages();
        about();
        checks.end();
    }

    private static void newObject() {
        PaperKinds papers = new PaperKinds();
        checks.due("about(0) when new", papers.about(0), 0);
        int[] first = {1, 1, 20, 16, 8, 60, 10, 30};
        for (int what = 1; what <= 8; what++) {
            checks.due("about(" + what + ") when new", papers.about(what), first[what - 1]);
        }
        for (int kind = 0; kind < 5; kind++) {
            checks.due("kind(k, 0) when new", papers.kind(kind, 0), 0);
            checks.due("kind(k, 1) when new", papers.kind(kind, 1), 0);
            checks.due("spot(k, 0, 0) when new", papers.spot(kind, 0, 0), PaperKinds.NONE);
            checks.due("lay(0, k, 0) when new", papers.lay(0, kind, 0), PaperKinds.NONE);
            checks.due("touch(0, k) when new", papers.touch(0, kind), PaperKinds.NONE);
        }
        checks.due("about(20) when new", papers.about(20), PaperKinds.NONE);
        checks.due("told(0) when new", papers.told(0), PaperKinds.NONE);
        checks.due("sorted(0) when new", papers.sorted(0), PaperKinds.NONE);
        checks.due("look() when new", papers.look(), PaperKinds.NONE);
        checks.due("heaps() when new", papers.heaps(), 0);
        checks.due("heap(0) when new", papers.heap(0), PaperKinds.NONE);
        checks.due("NONE", PaperKinds.NONE, -1);
    }

    private static void pages() {
        PaperKinds papers = new PaperKinds();
        for (int page = 0; page < 16; page++) {
            checks.due("page()", papers.page(), page);
            checks.due("about(0)", papers.about(0), page + 1);
            checks.due("about(20 + p) of a new page", papers.about(20 + page), 0);
            checks.due("told() of a new page", papers.told(page), PaperKinds.NONE);
        }
        checks.due("page() of 16", papers.page(), PaperKinds.NONE);
        checks.due("page() of 16, again", papers.page(), PaperKinds.NONE);
        checks.due("about(0) of 16", papers.about(0), 16);
        checks.due("about(36) of 16", papers.about(36), PaperKinds.NONE);
    }

    private static void boxes() {
        PaperKinds papers = new PaperKinds();
        checks.due("box of no page", papers.box(0, 1, 1, 1), PaperKinds.NONE);
        papers.page();
        int[][] wrong = {{-1, 1, 1, 1}, {1, 1, 1, 1}, {16, 1, 1, 1}, {0, -1, 1, 1}, {0, 64, 1, 1},
            {0, 1, -1, 1}, {0, 1, 64, 1}, {0, 1, 1, 0}, {0, 1, 1, 100}, {0, 1, 1, -5},
            {Integer.MIN_VALUE, 1, 1, 1}, {Integer.MAX_VALUE, 1, 1, 1},
            {0, Integer.MAX_VALUE, 1, 1}, {0, 1, Integer.MIN_VALUE, 1},
            {0, 1, 1, Integer.MAX_VALUE}};
        for (int[] call : wrong) {
            checks.due("a wrong box", papers.box(call[0], call[1], call[2], call[3]),
                    PaperKinds.NONE);
        }
        checks.due("about(20) after wrong boxes", papers.about(20), 0);
        checks.due("box(0, 0, 0, 1)", papers.box(0, 0, 0, 1), 0);
        checks.due("box(0, 63, 63, 99)", papers.box(0, 63, 63, 99), 1);
        checks.due("a code twice", papers.box(0, 5, 5, 99), PaperKinds.NONE);
        checks.due("a place twice", papers.box(0, 0, 0, 2), 2);
        for (int code = 3; code <= 7; code++) {
            checks.due("box()", papers.box(0, 9, 9, code), code);
            checks.due("about(20)", papers.about(20), code + 1);
        }
        checks.due("a ninth box", papers.box(0, 9, 9, 50), PaperKinds.NONE);
        checks.due("about(20) of 8", papers.about(20), 8);
        papers.page();
        checks.due("a code that another page has", papers.box(1, 0, 0, 1), 0);
        checks.due("about(21)", papers.about(21), 1);
    }

    private static void boxesOfToldPages() {
        PaperKinds papers = new PaperKinds();
        Checks.pageOfKind(papers, 2, 10, 10, 5);
        Checks.pageOf(papers, 10, 10, 5, 20, 20, 6);
        checks.due("lay(1, 2, 0) before", papers.lay(1, 2, 0), 8);
        checks.due("box of a told page", papers.box(0, 20, 21, 6), 1);
        checks.due("kind(2, 1) has it", papers.kind(2, 1), 2);
        checks.due("spot(2, 1, 2) has it", papers.spot(2, 1, 2), 21);
        checks.due("lay(1, 2, 0) after", papers.lay(1, 2, 0), 1);
        checks.due("box of a page that was laid", papers.box(1, 30, 30, 7), 2);
        checks.due("lay(1, 2, 0) with an extra one", papers.lay(1, 2, 0), 9);
    }

    private static void about() {
        PaperKinds papers = new PaperKinds();
        Checks.pageOf(papers, 1, 1, 1);
        Checks.pageOf(papers, 1, 1, 1, 2, 2, 2);
        papers.weights(2, 3, 40, 50, 60);
        papers.bounds(70, 80, 90);
        int[] due = {2, 2, 3, 40, 50, 60, 70, 80, 90};
        for (int what = 0; what <= 8; what++) {
            checks.due("about(" + what + ")", papers.about(what), due[what]);
        }
        checks.due("about(20)", papers.about(20), 1);
        checks.due("about(21)", papers.about(21), 2);
        int[] wrong = {-1, 9, 10, 19, 22, 35, 36, 1000, Integer.MIN_VALUE, Integer.MIN_VALUE + 19,
            Integer.MIN_VALUE + 20, Integer.MAX_VALUE};
        for (int what : wrong) {
            checks.due("about(" + what + ")", papers.about(what), PaperKinds.NONE);
        }
    }
}
