/** The edges that promises 15 and 16 name, and the term HEAPS. */
public final class HeapsEdgesTest {
    private static final Checks checks = new Checks("HeapsEdgesTest");
    private static final int NONE = PaperKinds.NONE;
    private static final int LEAST = Integer.MIN_VALUE;
    private static final int MOST = Integer.MAX_VALUE;
    private static final int UNKNOWN = 10;
    private static final int PERSON = 11;

    public static void main(String[] args) {
        notTold();
        unknown();
        noMoreThanHeap();
        lowerOnOther();
        otherIsAlwaysThere();
        byRisingCodes();
        boxesThatCome();
        chain();
        chainThroughOthers();
        leastPage();
        howMany();
        withoutBoxes();
        inNone();
        checks.end();
    }

    /** No page is of a kind; two of one box each cost what they are off. */
    private static PaperKinds pagesAt(int heap, int... ys) {
        PaperKinds papers = new PaperKinds();
        papers.weights(9, 1, 99, 99, 99);
        papers.bounds(0, 10, heap);
        for (int y : ys) {
            Checks.pageOf(papers, 10, y, 5);
        }
        return papers;
    }

    private static void heapsAre(String of, PaperKinds papers, int count, int... leastPages) {
        for (int page = 0; page < leastPages.length; page++) {
            checks.due(of + ": heap(" + page + ")", papers.heap(page), leastPages[page]);
        }
        checks.due(of + ": heaps()", papers.heaps(), count);
    }

    private static void notTold() {
        checks.says("PAGES that aren't told");
        PaperKinds papers = pagesAt(5, 10, 10, 40);
        heapsAre("none told", papers, 2, 0, 0, 2);
        papers.tell(2, 0);
        heapsAre("2 told", papers, 1, 0, 0, NONE);
        papers.tell(2, NONE);
        heapsAre("2 told no more", papers, 2, 0, 0, 2);
        PaperKinds odd = pagesAt(5, 10, 20, 20, 40);
        odd.tell(0, 0);
        odd.tell(1, 0);
        odd.tell(2, 0);
        checks.due("sorted() of a told one", odd.sorted(0), UNKNOWN);
        heapsAre("told, though unknown", odd, 1, NONE, NONE, NONE, 3);
    }

    private static void unknown() {
        checks.says("and are UNKNOWN");
        PaperKinds papers = pagesAt(5, 10, 13, 40);
        papers.tell(0, 0);
        papers.bounds(2, 10, 5);
        heapsAre("3 of 2", papers, 2, NONE, 1, 2);
        papers.bounds(3, 10, 5);
        heapsAre("3 of 3, sorted", papers, 1, NONE, NONE, 2);
        Checks.pageOfKind(papers, 1, 10, 16, 5);
        checks.due("sorted(1) by two kinds", papers.sorted(1), PERSON);
        heapsAre("3 of 3, for a person", papers, 1, NONE, NONE, 2);
        papers.bounds(30, 3, 5);
        heapsAre("all sorted, or for a person", papers, 0, NONE, NONE, NONE, NONE);
    }

    private static void noMoreThanHeap() {
        checks.says("two are NEAR if THE LAYING .. costs no more than HEAP");
        PaperKinds papers = pagesAt(0, 10, 17);
        for (int heap = 0; heap <= 9; heap++) {
            papers.bounds(0, 10, heap);
            heapsAre("7 of " + heap, papers, heap >= 7 ? 1 : 2, 0, heap >= 7 ? 0 : 1);
        }
        heapsAre("0 of 0", pagesAt(0, 10, 10), 1, 0, 0);
        heapsAre("1 of 0", pagesAt(0, 10, 11), 2, 0, 1);
    }

    private static void lowerOnOther() {
        checks.says("THE LAYING of the one with the lower number, on the other's BOXES as SPOTS");
        PaperKinds fewer = pagesAt(0, 10, 10);
        fewer.box(1, 50, 50, 6);
        PaperKinds more = pagesAt(0, 10, 10);
        more.box(0, 50, 50, 6);
        // A box more on the other is missed, one on the lower page is extra.
        fewer.weights(9, 1, 99, 20, 10);
        more.weights(9, 1, 99, 20, 10);
        int[] heaps = {9, 10, 19, 20};
        for (int heap : heaps) {
            fewer.bounds(0, 10, heap);
            more.bounds(0, 10, heap);
            checks.due("one that is missed of " + heap, fewer.heaps(), heap >= 20 ? 1 : 2);
            checks.due("one that is extra of " + heap, more.heaps(), heap >= 10 ? 1 : 2);
        }
    }

    private static void otherIsAlwaysThere() {
        checks.says("as SPOTS (.. ALWAYS there)");
        PaperKinds papers = pagesAt(98, 10, 10);
        papers.box(1, 50, 50, 6);
        checks.due("a MISS of 99 isn't halved", papers.heaps(), 2);
        papers.bounds(0, 10, 99);
        checks.due("a MISS of 99 of 99", papers.heaps(), 1);
    }

    private static void byRisingCodes() {
        checks.says("as SPOTS (by rising CODES");
        PaperKinds papers = new PaperKinds();
        papers.bounds(0, 10, 0);
        Checks.pageOf(papers, 10, 10, 1, 20, 20, 2, 30, 30, 3);
        Checks.pageOf(papers, 30, 30, 3, 10, 10, 1, 20, 20, 2);
        heapsAre("another order", papers, 1, 0, 0);
    }

    private static void boxesThatCome() {
        checks.says("on the other's BOXES as SPOTS");
        PaperKinds papers = pagesAt(0, 10, 10, 10);
        heapsAre("alike", papers, 1, 0, 0, 0);
        papers.box(2, 50, 50, 6);
        heapsAre("the last has one more", papers, 2, 0, 0, 2);
        papers.box(0, 50, 50, 6);
        heapsAre("the first, too", papers, 2, 0, 1, 0);
        papers.box(1, 50, 50, 6);
        heapsAre("all have one more", papers, 1, 0, 0, 0);
    }

    private static void chain() {
        checks.says("a HEAP is all that a chain of NEAR ones leads to");
        int[] ys = new int[16];
        for (int page = 0; page < 16; page++) {
            // Every second page first, then those between, from the last.
            ys[page] = page < 8 ? 8 * page : 4 + 8 * (15 - page);
        }
        PaperKinds papers = pagesAt(4, ys);
        heapsAre("16 in a chain", papers, 1, 0, 0, 0, 0, 0, 0, 0, 0, 0, 0, 0, 0, 0, 0, 0, 0);
        papers.bounds(0, 10, 3);
        heapsAre("16 alone", papers, 16, 0, 1, 2, 3, 4, 5, 6, 7, 8, 9, 10, 11, 12, 13, 14, 15);
        heapsAre("two chains", pagesAt(5, 10, 40, 15, 45, 20, 50), 2, 0, 1, 0, 1, 0, 1);
    }

    private static void chainThroughOthers() {
        checks.says("HEAPS: PAGES that aren't told and are UNKNOWN; .. a chain of NEAR ones");
        PaperKinds papers = pagesAt(10, 10, 20, 30);
        heapsAre("through 1", papers, 1, 0, 0, 0);
        papers.tell(1, 0);
        heapsAre("1 is told", papers, 2, 0, NONE, 2);
        papers.tell(1, NONE);
        Checks.pageOfKind(papers, 0, 10, 20, 5);
        heapsAre("1 is sorted", papers, 2, 0, NONE, 2, NONE);
        Checks.pageOfKind(papers, 1, 10, 20, 5);
        checks.due("sorted(1)", papers.sorted(1), PERSON);
        heapsAre("1 is for a person", papers, 2, 0, NONE, 2, NONE, NONE);
    }

    private static void leastPage() {
        checks.says("told by its least PAGE");
        heapsAre("joined from behind", pagesAt(5, 60, 10, 20, 15), 2, 0, 1, 1, 1);
        heapsAre("joined by the last", pagesAt(5, 20, 10, 15), 1, 0, 0, 0);
        heapsAre("joined by the first", pagesAt(5, 15, 10, 20), 1, 0, 0, 0);
        // 0 and 3, then 1 and 2, are joined before 4 joins them all.
        heapsAre("two heaps joined", pagesAt(5, 10, 28, 25, 15, 20), 1, 0, 0, 0, 0, 0);
    }

    private static void howMany() {
        checks.says("How many HEAPS there are.");
        PaperKinds papers = new PaperKinds();
        checks.due("no pages", papers.heaps(), 0);
        Checks.pageOf(papers, 10, 10, 5);
        checks.due("one page", papers.heaps(), 1);
        papers.tell(0, 0);
        checks.due("one page that is told", papers.heaps(), 0);
        checks.due("heap(0)", papers.heap(0), NONE);
    }

    private static void withoutBoxes() {
        checks.says("PAGES that aren't told and are UNKNOWN [without BOXES]");
        PaperKinds papers = new PaperKinds();
        papers.bounds(0, 10, 0);
        papers.page();
        papers.page();
        heapsAre("two of nothing", papers, 1, 0, 0);
        Checks.pageOf(papers, 10, 10, 5);
        heapsAre("one of a box", papers, 2, 0, 0, 2);
        papers.bounds(0, 10, 16);
        heapsAre("a MISS of 16", papers, 1, 0, 0, 0);
        papers.bounds(0, 10, 15);
        heapsAre("a MISS of 15", papers, 2, 0, 0, 2);
    }

    private static void inNone() {
        checks.says("The least PAGE of a PAGE's HEAP. NONE: it is in none.");
        PaperKinds papers = Example.papers();
        heapsAre("the example", papers, 1, NONE, NONE, NONE, 3, 3, NONE);
        int[] others = {-1, -2, Example.PAGES, 15, 16, LEAST, MOST};
        for (int page : others) {
            checks.due("heap(" + page + ")", papers.heap(page), NONE);
        }
    }
}
