/** Promises 9 to 11: lay, moved, read. */
public final class LayingTest {
    private static final Checks checks = new Checks("LayingTest");
    private static final int NONE = PaperKinds.NONE;

    public static void main(String[] args) {
        codes();
        misses();
        likeMoves();
        farthestMove();
        likeSpots();
        crowds();
        withoutBoxesOrSpots();
        wrongQuestions();
        checks.end();
    }

    /** The cost, the move, and the spots of the boxes of the laying of a page on a kind. */
    private static void due(PaperKinds papers, int page, int kind, int cost, int dx, int dy,
            int... spots) {
        checks.due("lay(p, k, 0)", papers.lay(page, kind, 0), cost);
        checks.due("moved(p, k, false)", papers.moved(page, kind, false), dx);
        checks.due("moved(p, k, true)", papers.moved(page, kind, true), dy);
        for (int box = 0; box < spots.length; box++) {
            checks.due("lay(p, k, 1" + box + ")", papers.lay(page, kind, 10 + box), spots[box]);
        }
    }

    private static void codes() {
        PaperKinds papers = new PaperKinds();
        Checks.pageOfKind(papers, 0, 10, 10, 5);
        Checks.pageOf(papers, 10, 10, 6);
        due(papers, 1, 0, 20, 0, 0, 0);
        checks.due("another code is read", papers.read(1, 0, 0), 6);
        papers.weights(1, 1, 25, 16, 8);
        due(papers, 1, 0, 24, 0, 0, NONE);
        checks.due("nothing is read", papers.read(1, 0, 0), NONE);
        papers.weights(1, 1, 24, 16, 8);
        // One that isn't laid counts as behind all.
        due(papers, 1, 0, 24, 0, 0, 0);
    }

    private static void misses() {
        PaperKinds papers = new PaperKinds();
        Checks.pageOfKind(papers, 0, 10, 10, 5, 20, 20, 6);
        Checks.pageOfKind(papers, 0, 10, 10, 5, 30, 30, 7);
        Checks.pageOf(papers, 10, 10, 5);
        papers.weights(1, 1, 99, 15, 8);
        due(papers, 2, 0, 14, 0, 0, 0);
        Checks.pageOf(papers, 20, 20, 6);
        due(papers, 3, 0, 22, 0, 0, 1);
        checks.due("read(3, 0, 1)", papers.read(3, 0, 1), 6);
        checks.due("read(3, 0, 0)", papers.read(3, 0, 0), NONE);
        Checks.pageOf(papers, 50, 50, 9);
        due(papers, 4, 0, 37, 0, 0, NONE);
    }

    private static void likeMoves() {
        PaperKinds papers = new PaperKinds();
        Checks.pageOfKind(papers, 0, 10, 10, 5);
        Checks.pageOf(papers, 11, 10, 5);
        due(papers, 1, 0, 1, -1, 0, 0);
        Checks.pageOf(papers, 9, 10, 5);
        due(papers, 2, 0, 1, 0, 0, 0);
        Checks.pageOf(papers, 10, 12, 5);
        due(papers, 3, 0, 2, 0, -2, 0);
        Checks.pageOf(papers, 9, 11, 5);
        due(papers, 4, 0, 2, 0, -1, 0);
        papers.weights(1, 2, 20, 16, 8);
        due(papers, 4, 0, 2, 1, -1, 0);
        papers.weights(2, 1, 20, 16, 8);
        due(papers, 4, 0, 2, 0, 0, 0);
        papers.weights(0, 0, 20, 16, 8);
        due(papers, 4, 0, 0, -3, -3, 0);
        papers.weights(0, 1, 20, 16, 8);
        due(papers, 4, 0, 0, 1, -1, 0);
    }

    private static void farthestMove() {
        PaperKinds papers = new PaperKinds();
        Checks.pageOfKind(papers, 0, 10, 10, 5, 20, 20, 6);
        Checks.pageOf(papers, 14, 6, 5, 24, 16, 6);
        due(papers, 1, 0, 10, -3, 3, 0, 1);
        Checks.pageOf(papers, 6, 14, 5, 16, 24, 6);
        due(papers, 2, 0, 10, 3, -3, 0, 1);
        Checks.pageOfKind(papers, 1, 0, 0, 5, 63, 63, 6);
        // Places beyond the edges are no others: 3 to the left of x 1 is 2 from x 0.
        Checks.pageOf(papers, 1, 0, 5, 63, 61, 6);
        papers.weights(0, 1, 20, 16, 8);
        due(papers, 4, 1, 3, -1, 0, 0, 1);
    }

    private static void likeSpots() {
        PaperKinds papers = new PaperKinds();
        Checks.pageOfKind(papers, 0, 10, 10, 5, 10, 10, 6);
        Checks.pageOf(papers, 10, 10, 7, 10, 10, 8);
        due(papers, 1, 0, 40, 0, 0, 0, 1);
        checks.due("read(1, 0, 0)", papers.read(1, 0, 0), 7);
        checks.due("read(1, 0, 1)", papers.read(1, 0, 1), 8);
        Checks.pageOf(papers, 10, 10, 8);
        due(papers, 2, 0, 36, 0, 0, 0);
        Checks.pageOf(papers, 10, 10, 9, 10, 10, 8, 10, 10, 7);
        due(papers, 3, 0, 48, 0, 0, 0, 1, NONE);
        Checks.pageOf(papers, 10, 10, 6, 10, 10, 5);
        due(papers, 4, 0, 0, 0, 0, 1, 0);
        papers.weights(1, 1, 0, 16, 8);
        due(papers, 4, 0, 0, 0, 0, 0, 1);
        papers.weights(1, 1, 20, 0, 0);
        due(papers, 1, 0, 0, 0, 0, NONE, NONE);
        papers.weights(1, 1, 0, 0, 0);
        due(papers, 3, 0, 0, 0, 0, 0, 1, NONE);
    }

    private static void crowds() {
        PaperKinds papers = new PaperKinds();
        Checks.pageOfKind(papers, 0, 10, 10, 1, 12, 10, 2, 14, 10, 3, 16, 10, 4);
        // All would be cheapest on the first spot; each hands it on.
        Checks.pageOf(papers, 10, 10, 11, 10, 10, 12, 10, 10, 13, 10, 10, 14);
        papers.weights(9, 1, 0, 99, 99);
        due(papers, 1, 0, 12, 0, 0, 0, 1, 2, 3);
        papers.weights(9, 1, 0, 2, 2);
        due(papers, 1, 0, 10, 0, 0, 0, 1, 2, NONE);
        Checks.pageOf(papers, 9, 10, 11, 10, 10, 12, 7, 10, 13);
        papers.weights(9, 2, 0, 50, 60);
        // 10 places in all, and a spot that is missed.
        due(papers, 2, 0, 70, 0, 0, 0, 1, 2);
        papers.weights(9, 2, 1, 50, 60);
        papers.box(2, 16, 10, 1);
        // The same 10 places, and four codes that differ.
        due(papers, 2, 0, 24, 0, 0, 0, 1, 2, 3);
    }

    private static void withoutBoxesOrSpots() {
        PaperKinds papers = new PaperKinds();
        Checks.pageOfKind(papers, 0, 10, 10, 1, 12, 10, 2);
        papers.page();
        due(papers, 1, 0, 32, 0, 0, NONE);
        papers.weights(0, 1, 20, 16, 8);
        due(papers, 1, 0, 32, -3, -3, NONE);
        papers.tell(0, 1);
        Checks.pageOfKind(papers, 1, 10, 10, 3);
        Checks.pageOfKind(papers, 1, 10, 10, 4);
        checks.due("no spots", papers.kind(1, 1), 0);
        due(papers, 0, 1, 16, -3, -3, NONE, NONE);
        due(papers, 1, 1, 0, -3, -3, NONE);
        checks.due("read(0, 1, 0)", papers.read(0, 1, 0), NONE);
    }

    private static void wrongQuestions() {
        PaperKinds papers = new PaperKinds();
        Checks.pageOfKind(papers, 0, 1, 2, 3);
        int[] wrong = {-11, -2, -1, 1, 5, 16, Integer.MIN_VALUE, Integer.MAX_VALUE};
        for (int number : wrong) {
            checks.due("lay(n, 0, 0)", papers.lay(number, 0, 0), NONE);
            checks.due("lay(0, n, 0)", papers.lay(0, number, 0), NONE);
            checks.due("lay(0, 0, n)", papers.lay(0, 0, number), NONE);
            checks.due("moved(n, 0, false)", papers.moved(number, 0, false), -10);
            checks.due("moved(0, n, true)", papers.moved(0, number, true), -10);
            checks.due("read(n, 0, 0)", papers.read(number, 0, 0), NONE);
            checks.due("read(0, n, 0)", papers.read(0, number, 0), NONE);
            checks.due("read(0, 0, n)", papers.read(0, 0, number), NONE);
        }
        int[] wrongWhats = {9, 11, 17, 18, 20, Integer.MIN_VALUE + 9, Integer.MIN_VALUE + 10};
        for (int what : wrongWhats) {
            checks.due("lay(0, 0, " + what + ")", papers.lay(0, 0, what), NONE);
        }
        papers.tell(0, NONE);
        checks.due("lay() on a kind without pages", papers.lay(0, 0, 0), NONE);
        checks.due("lay() on a kind without pages", papers.lay(0, 0, 10), NONE);
        checks.due("moved() on a kind without pages", papers.moved(0, 0, false), -10);
        checks.due("read() on a kind without pages", papers.read(0, 0, 0), NONE);
    }
}
