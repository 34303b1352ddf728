/** Promises 15 and 16: heaps, heap. */
public final class HeapsTest {
    private static final Checks checks = new Checks("HeapsTest");
    private static final int NONE = PaperKinds.NONE;

    public static void main(String[] args) {
        chain();
        lowerOnOther();
        toldAndSorted();
        withoutBoxes();
        order();
        wrongPages();
        checks.end();
    }

    private static void chain() {
        PaperKinds papers = new PaperKinds();
        papers.bounds(60, 10, 10);
        Checks.pageOf(papers, 10, 10, 5);
        Checks.pageOf(papers, 10, 30, 5);
        Checks.pageOf(papers, 10, 50, 5);
        checks.due("three heaps", papers.heaps(), 3);
        Checks.pageOf(papers, 10, 40, 5);
        checks.due("3 leads from 1 to 2", papers.heaps(), 2);
        checks.due("heap(0)", papers.heap(0), 0);
        checks.due("heap(1)", papers.heap(1), 1);
        checks.due("heap(2)", papers.heap(2), 1);
        checks.due("heap(3)", papers.heap(3), 1);
        Checks.pageOf(papers, 10, 20, 5);
        checks.due("4 leads from 0 to 1", papers.heaps(), 1);
        checks.due("heap(2)", papers.heap(2), 0);
        papers.bounds(60, 10, 9);
        checks.due("9 is not enough", papers.heaps(), 5);
        papers.weights(1, 0, 20, 16, 8);
        checks.due("if far costs nothing", papers.heaps(), 1);
        papers.weights(1, 1, 20, 16, 8);
        checks.due("if it does again", papers.heaps(), 5);
        papers.bounds(60, 10, 11);
        papers.box(4, 1, 1, 6);
        // 1, 2 and 3 hang together; 4 has a spot more (16) than what is laid on it.
        checks.due("a box more", papers.heaps(), 3);
        checks.due("heap(4)", papers.heap(4), 4);
    }

    private static void lowerOnOther() {
        PaperKinds papers = new PaperKinds();
        papers.bounds(60, 10, 8);
        Checks.pageOf(papers, 10, 10, 5);
        Checks.pageOf(papers, 10, 10, 5, 20, 20, 6);
        checks.due("0 on 1 misses one: 16", papers.heaps(), 2);
        papers.bounds(60, 10, 16);
        checks.due("16 of 16", papers.heaps(), 1);
        papers.bounds(60, 10, 15);
        checks.due("16 of 15", papers.heaps(), 2);
        PaperKinds others = new PaperKinds();
        others.bounds(60, 10, 8);
        Checks.pageOf(others, 10, 10, 5, 20, 20, 6);
        Checks.pageOf(others, 10, 10, 5);
        checks.due("0 on 1 has an extra one: 8", others.heaps(), 1);
        others.bounds(60, 10, 7);
        checks.due("8 of 7", others.heaps(), 2);
        others.bounds(60, 10, 8);
        checks.due("8 of 8", others.heaps(), 1);
        others.box(0, 30, 30, 7);
        checks.due("a second extra one: 16", others.heaps(), 2);
    }

    private static void toldAndSorted() {
        PaperKinds papers = new PaperKinds();
        Checks.pageOf(papers, 10, 10, 5);
        Checks.pageOf(papers, 10, 10, 5);
        Checks.pageOf(papers, 40, 40, 6);
        checks.due("one heap: 24 is near", papers.heaps(), 1);
        papers.bounds(5, 10, 5);
        checks.due("two heaps", papers.heaps(), 2);
        papers.tell(2, 0);
        checks.due("told ones are in none", papers.heap(2), NONE);
        checks.due("heaps()", papers.heaps(), 1);
        checks.due("heap(1)", papers.heap(1), 0);
        papers.bounds(60, 10, 5);
        checks.due("sorted ones are in none", papers.heap(1), NONE);
        checks.due("heaps()", papers.heaps(), 0);
        papers.bounds(5, 10, 5);
        papers.tell(0, 1);
        papers.tell(2, 2);
        papers.box(2, 1, 1, 7);
        papers.tell(1, 3);
        Checks.pageOf(papers, 10, 11, 5);
        checks.due("for a person", papers.sorted(3), 11);
        checks.due("those for a person are in none", papers.heap(3), NONE);
        PaperKinds others = new PaperKinds();
        others.bounds(5, 10, 1000);
        Checks.pageOfKind(others, 0, 10, 10, 5);
        Checks.pageOfKind(others, 0, 10, 10, 6);
        Checks.pageOfKind(others, 0, 10, 10, 7);
        checks.due("a told one that is unknown", others.sorted(1), 10);
        checks.due("is in none", others.heap(1), NONE);
        checks.due("and makes none", others.heaps(), 0);
    }

    private static void withoutBoxes() {
        PaperKinds papers = new PaperKinds();
        papers.page();
        papers.page();
        Checks.pageOf(papers, 10, 10, 5);
        papers.bounds(60, 10, 0);
        checks.due("heaps()", papers.heaps(), 2);
        checks.due("heap(1)", papers.heap(1), 0);
        papers.bounds(60, 10, 16);
        checks.due("a spot that is missed costs 16", papers.heaps(), 1);
    }

    private static void order() {
        PaperKinds papers = new PaperKinds();
        papers.bounds(60, 10, 0);
        Checks.pageOf(papers, 10, 10, 5, 20, 20, 6, 30, 30, 7);
        Checks.pageOf(papers, 30, 30, 7, 10, 10, 5, 20, 20, 6);
        checks.due("the order of boxes is nothing", papers.heaps(), 1);
        checks.due("heap(1)", papers.heap(1), 0);
    }

    private static void wrongPages() {
        PaperKinds papers = new PaperKinds();
        papers.page();
        int[] wrong = {-2, -1, 1, 15, 16, Integer.MIN_VALUE, Integer.MAX_VALUE};
        for (int page : wrong) {
            checks.due("heap(" + page + ")", papers.heap(page), NONE);
        }
    }
}
