/** The edges that promises 4, 7, 8 and 13 name, and the term KINDS. */
public final class KindsEdgesTest {
    private static final Checks checks = new Checks("KindsEdgesTest");
    private static final int NONE = PaperKinds.NONE;
    private static final int LEAST = Integer.MIN_VALUE;
    private static final int MOST = Integer.MAX_VALUE;

    public static void main(String[] args) {
        firstAndLastKind();
        half();
        always();
        risingCodes();
        middles();
        middlesOfTheseBoxes();
        withoutPages();
        pagesThatChange();
        inPlaceOfWhatWasTold();
        tellOthers();
        tellWithoutBoxes();
        told();
        kindOthers();
        spotOthers();
        checks.end();
    }

    private static void firstAndLastKind() {
        checks.says("KINDS 0 .. 4");
        PaperKinds papers = new PaperKinds();
        for (int kind = 0; kind < 5; kind++) {
            Checks.pageOf(papers, 10, 10 * kind, 5 + kind);
            checks.due("tell(p, " + kind + ")", papers.tell(kind, kind), true);
        }
        for (int kind = 0; kind < 5; kind++) {
            checks.due("told(p)", papers.told(kind), kind);
            checks.due("kind(k, 0)", papers.kind(kind, 0), 1);
            checks.due("kind(k, 1)", papers.kind(kind, 1), 1);
            checks.due("spot(k, 0, 0)", papers.spot(kind, 0, 0), 5 + kind);
            checks.due("spot(k, 0, 2)", papers.spot(kind, 0, 2), 10 * kind);
            checks.due("lay(p, k, 0)", papers.lay(kind, kind, 0), 0);
        }
    }

    /** Papers with a kind of some pages; all have code 10, only the first ones code 90. */
    private static PaperKinds partly(int pages, int first) {
        PaperKinds papers = new PaperKinds();
        for (int page = 0; page < pages; page++) {
            Checks.pageOfKind(papers, 1, 10, 10, 10);
            if (page < first) {
                papers.box(page, 20, 20, 90);
            }
        }
        return papers;
    }

    private static void half() {
        checks.says("its SPOTS are the CODES that are on half of them at least");
        for (int pages = 1; pages <= 16; pages++) {
            for (int first = 0; first <= pages; first++) {
                PaperKinds papers = partly(pages, first);
                boolean enough = first > 0 && 2 * first >= pages;
                String of = first + " of " + pages;
                checks.due(of + ": kind(1, 0)", papers.kind(1, 0), pages);
                checks.due(of + ": kind(1, 1)", papers.kind(1, 1), enough ? 2 : 1);
                checks.due(of + ": spot(1, 1, 0)", papers.spot(1, 1, 0), enough ? 90 : NONE);
            }
        }
        PaperKinds papers = new PaperKinds();
        for (int code = 1; code <= 3; code++) {
            Checks.pageOfKind(papers, 0, 10, 10, code);
            checks.due("a code each of " + code, papers.kind(0, 1), code < 3 ? code : 0);
        }
    }

    private static void always() {
        checks.says("it is ALWAYS there if it is on all T");
        for (int pages = 1; pages <= 16; pages++) {
            PaperKinds all = partly(pages, pages);
            checks.due("on all " + pages, all.spot(1, 1, 3), 1);
            checks.due("of " + pages + ", the other one", all.spot(1, 0, 3), 1);
            if (pages > 1) {
                PaperKinds most = partly(pages, pages - 1);
                checks.due("on all but one of " + pages, most.spot(1, 1, 3), 0);
                checks.due("on all but one, the other one", most.spot(1, 0, 3), 1);
            }
        }
    }

    private static void risingCodes() {
        checks.says("by rising CODES");
        PaperKinds papers = new PaperKinds();
        Checks.pageOfKind(papers, 2, 1, 0, 99, 2, 0, 50, 3, 0, 2);
        Checks.pageOfKind(papers, 2, 4, 0, 51, 5, 0, 98, 6, 0, 1);
        int[] codes = {1, 2, 50, 51, 98, 99};
        int[] xs = {6, 3, 2, 4, 5, 1};
        for (int spot = 0; spot < 6; spot++) {
            checks.due("spot(2, i, 0)", papers.spot(2, spot, 0), codes[spot]);
            checks.due("spot(2, i, 1)", papers.spot(2, spot, 1), xs[spot]);
        }
        Checks.pageOfKind(papers, 3, 10, 10, 50);
        checks.due("kind(3, 1): 1 and 99 are another kind's", papers.kind(3, 1), 1);
        checks.due("spot(3, 0, 0)", papers.spot(3, 0, 0), 50);
    }

    private static void middles() {
        checks.says("a SPOT's x is that of its BOXES (of these PAGES) in the middle, by rising x"
                + " (of an even number of them the lower one); its y likewise");
        for (int count = 1; count <= 16; count++) {
            PaperKinds papers = new PaperKinds();
            for (int page = 0; page < count; page++) {
                // 5 steps at a time go through all places in no order; y falls where x rises.
                int place = count % 5 == 0 ? page : page * 5 % count;
                Checks.pageOfKind(papers, 3, 4 * place, 63 - 3 * place, 7);
            }
            int lower = (count - 1) / 2;
            int upper = count - 1 - lower;
            checks.due("x of " + count, papers.spot(3, 0, 1), 4 * lower);
            checks.due("y of " + count, papers.spot(3, 0, 2), 63 - 3 * upper);
        }
    }

    private static void middlesOfTheseBoxes() {
        checks.says("that of its BOXES (of these PAGES)");
        PaperKinds papers = new PaperKinds();
        Checks.pageOfKind(papers, 0, 30, 30, 7, 1, 1, 8);
        Checks.pageOfKind(papers, 0, 31, 31, 7, 2, 2, 8);
        Checks.pageOfKind(papers, 0, 32, 32, 7, 3, 3, 8);
        Checks.pageOfKind(papers, 0, 0, 0, 9);
        Checks.pageOfKind(papers, 1, 0, 0, 7);
        Checks.pageOf(papers, 0, 0, 7);
        checks.due("spot(0, 0, 1)", papers.spot(0, 0, 1), 31);
        checks.due("spot(0, 0, 2)", papers.spot(0, 0, 2), 31);
        checks.due("spot(0, 1, 1)", papers.spot(0, 1, 1), 2);
        checks.due("kind(0, 1)", papers.kind(0, 1), 2);
    }

    private static void withoutPages() {
        checks.says("A KIND of which no PAGE is told has no SPOTS and isn't asked.");
        PaperKinds papers = new PaperKinds();
        Checks.pageOf(papers, 10, 10, 5);
        withoutPages(papers, "never told");
        papers.tell(0, 2);
        checks.due("sorted(0) when told", papers.sorted(0), 2);
        papers.tell(0, NONE);
        withoutPages(papers, "told no more");
    }

    private static void withoutPages(PaperKinds papers, String when) {
        checks.due(when + ": kind(2, 0)", papers.kind(2, 0), 0);
        checks.due(when + ": kind(2, 1)", papers.kind(2, 1), 0);
        for (int what = 0; what <= 3; what++) {
            checks.due(when + ": spot(2, 0, w)", papers.spot(2, 0, what), NONE);
        }
        checks.due(when + ": lay(0, 2, 0)", papers.lay(0, 2, 0), NONE);
        checks.due(when + ": lay(0, 2, 10)", papers.lay(0, 2, 10), NONE);
        checks.due(when + ": moved(0, 2, false)", papers.moved(0, 2, false), -10);
        checks.due(when + ": moved(0, 2, true)", papers.moved(0, 2, true), -10);
        checks.due(when + ": read(0, 2, 0)", papers.read(0, 2, 0), NONE);
        checks.due(when + ": sorted(0)", papers.sorted(0), 10);
        int other = Checks.pageOfKind(papers, 3, 10, 10, 5);
        checks.due(when + ": versions(2, 3, 0)", papers.versions(2, 3, 0), NONE);
        checks.due(when + ": versions(3, 2, 1)", papers.versions(3, 2, 1), NONE);
        checks.due(when + ": sorted(0) by the other one", papers.sorted(0), 3);
        papers.tell(other, NONE);
    }

    private static void pagesThatChange() {
        checks.says("a KIND is made of the PAGES that are told of it");
        PaperKinds papers = new PaperKinds();
        Checks.pageOfKind(papers, 0, 10, 10, 5);
        Checks.pageOfKind(papers, 0, 30, 30, 5);
        checks.due("x of both", papers.spot(0, 0, 1), 10);
        papers.box(1, 40, 40, 6);
        checks.due("a box more: kind(0, 1)", papers.kind(0, 1), 2);
        checks.due("a box more: spot(0, 1, 3)", papers.spot(0, 1, 3), 0);
        papers.tell(0, 1);
        checks.due("a page less: spot(0, 0, 1)", papers.spot(0, 0, 1), 30);
        checks.due("a page less: spot(0, 1, 3)", papers.spot(0, 1, 3), 1);
        checks.due("its new kind: spot(1, 0, 1)", papers.spot(1, 0, 1), 10);
    }

    private static void inPlaceOfWhatWasTold() {
        checks.says("A PAGE is told to be of a KIND (in place of what was told; NONE: of none):"
                + " true.");
        PaperKinds papers = new PaperKinds();
        Checks.pageOf(papers, 10, 10, 5);
        int[] tellings = {NONE, 0, 0, 4, NONE, NONE, 4, 0};
        for (int kind : tellings) {
            checks.due("tell(0, " + kind + ")", papers.tell(0, kind), true);
            checks.due("told(0)", papers.told(0), kind);
            checks.due("kind(0, 0)", papers.kind(0, 0), kind == 0 ? 1 : 0);
            checks.due("kind(4, 0)", papers.kind(4, 0), kind == 4 ? 1 : 0);
            checks.due("kind(0, 1)", papers.kind(0, 1), kind == 0 ? 1 : 0);
            checks.due("kind(4, 1)", papers.kind(4, 1), kind == 4 ? 1 : 0);
        }
    }

    private static void tellOthers() {
        checks.says("False for others");
        int[] kinds = {-2, 5, 10, 16, LEAST, MOST};
        for (int kind : kinds) {
            checks.dueWithoutChange("tell(0, " + kind + ")", p -> p.tell(0, kind) ? 1 : 0, 0);
            checks.dueWithoutChange("tell(2, " + kind + ")", p -> p.tell(2, kind) ? 1 : 0, 0);
        }
        int[] pages = {-1, -2, Example.PAGES, 15, 16, LEAST, MOST};
        for (int page : pages) {
            checks.dueWithoutChange("tell(" + page + ", 0)", p -> p.tell(page, 0) ? 1 : 0, 0);
            checks.dueWithoutChange("tell(" + page + ", NONE)",
                    p -> p.tell(page, NONE) ? 1 : 0, 0);
        }
    }

    private static void tellWithoutBoxes() {
        checks.says("False .. without BOXES.");
        int bare = Example.BARE_PAGE;
        for (int kind = NONE; kind < 5; kind++) {
            int asked = kind;
            checks.dueWithoutChange("tell(4, " + kind + ")", p -> p.tell(bare, asked) ? 1 : 0, 0);
        }
        PaperKinds papers = Example.papers();
        papers.box(bare, 1, 1, 1);
        checks.due("tell() with one", papers.tell(bare, 0), true);
    }

    private static void told() {
        checks.says("What a PAGE is told to be (NONE: nothing). NONE for others.");
        PaperKinds papers = Example.papers();
        int[] tellings = {0, 1, NONE, NONE, NONE, 1};
        for (int page = 0; page < Example.PAGES; page++) {
            checks.due("told(" + page + ")", papers.told(page), tellings[page]);
        }
        int[] others = {-1, -2, Example.PAGES, 15, 16, LEAST, MOST};
        for (int page : others) {
            checks.due("told(" + page + ")", papers.told(page), NONE);
        }
    }

    private static void kindOthers() {
        checks.says("Of a KIND: 0 PAGES told, 1 SPOTS. NONE for others.");
        PaperKinds papers = Example.papers();
        checks.due("kind(1, 0)", papers.kind(1, 0), 2);
        checks.due("kind(1, 1)", papers.kind(1, 1), 3);
        int[] others = {-1, -2, 5, 10, LEAST, MOST};
        for (int kind : others) {
            checks.due("kind(" + kind + ", 0)", papers.kind(kind, 0), NONE);
            checks.due("kind(" + kind + ", 1)", papers.kind(kind, 1), NONE);
        }
        int[] otherWhats = {-1, 2, 3, LEAST, MOST};
        for (int what : otherWhats) {
            checks.due("kind(1, " + what + ")", papers.kind(1, what), NONE);
            checks.due("kind(2, " + what + ")", papers.kind(2, what), NONE);
        }
        for (int page = 0; page < 16; page++) {
            Checks.pageOf(papers, 1, 1, 1);
            papers.tell(page, 4);
        }
        checks.due("kind(4, 0) of all that have boxes", papers.kind(4, 0), 15);
        papers.box(Example.BARE_PAGE, 1, 1, 1);
        papers.tell(Example.BARE_PAGE, 4);
        checks.due("kind(4, 0) of 16", papers.kind(4, 0), 16);
    }

    private static void spotOthers() {
        checks.says("Of SPOT i of a KIND: 0 CODE, 1 x, 2 y, 3 whether it is ALWAYS there (1, 0)."
                + " NONE for others.");
        PaperKinds papers = new PaperKinds();
        for (int page = 0; page < 2; page++) {
            Checks.pageOfMany(papers, 8, 10 + page, 20 + page, 1 + 8 * page);
            papers.tell(page, 0);
        }
        int[] last = {16, 11, 21, 0};
        for (int what = 0; what <= 3; what++) {
            checks.due("spot(0, 15, " + what + ")", papers.spot(0, 15, what), last[what]);
            checks.due("spot(0, 16, " + what + ")", papers.spot(0, 16, what), NONE);
            checks.due("spot(0, -1, " + what + ")", papers.spot(0, -1, what), NONE);
            checks.due("spot(-1, 0, " + what + ")", papers.spot(-1, 0, what), NONE);
            checks.due("spot(5, 0, " + what + ")", papers.spot(5, 0, what), NONE);
            checks.due("spot(1, 0, " + what + ")", papers.spot(1, 0, what), NONE);
        }
        int[] others = {LEAST, MOST};
        for (int other : others) {
            checks.due("spot(n, 0, 0)", papers.spot(other, 0, 0), NONE);
            checks.due("spot(0, n, 0)", papers.spot(0, other, 0), NONE);
            checks.due("spot(0, 0, n)", papers.spot(0, 0, other), NONE);
        }
        checks.due("spot(0, 0, -1)", papers.spot(0, 0, -1), NONE);
        checks.due("spot(0, 0, 4)", papers.spot(0, 0, 4), NONE);
        papers.tell(1, NONE);
        checks.due("spot(0, 7, 3)", papers.spot(0, 7, 3), 1);
        checks.due("spot(0, 8, 0) that was there before", papers.spot(0, 8, 0), NONE);
    }
}
