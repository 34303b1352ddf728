/** Promises 5 and 6: weights, bounds. */
public final class WeightsTest {
    private static final Checks checks = new Checks("WeightsTest");

    public static void main(String[] args) {
        weights();
        weightsInCosts();
        bounds();
        checks.end();
    }

    private static void weights() {
        PaperKinds papers = new PaperKinds();
        int[] most = {9, 9, 99, 99, 99};
        checks.due("the most", papers.weights(9, 9, 99, 99, 99), true);
        checks.due("the least", papers.weights(0, 0, 0, 0, 0), true);
        checks.due("weights()", papers.weights(1, 2, 3, 4, 5), true);
        for (int which = 0; which < 5; which++) {
            int[] wrong = {-1, most[which] + 1, Integer.MIN_VALUE, Integer.MAX_VALUE};
            for (int value : wrong) {
                int[] call = {6, 6, 6, 6, 6};
                call[which] = value;
                checks.due("a wrong weight",
                        papers.weights(call[0], call[1], call[2], call[3], call[4]), false);
            }
        }
        for (int which = 1; which <= 5; which++) {
            checks.due("about(" + which + ") unchanged", papers.about(which), which);
        }
    }

    private static void weightsInCosts() {
        PaperKinds papers = new PaperKinds();
        Checks.pageOfKind(papers, 0, 10, 10, 1, 30, 30, 2);
        Checks.pageOf(papers, 15, 10, 1, 50, 50, 3);
        papers.weights(2, 3, 99, 7, 5);
        // dx -3 costs 6, the 2 places that are left 6; one spot is missed, one box is extra.
        checks.due("cost", papers.lay(1, 0, 0), 24);
        papers.weights(4, 3, 99, 7, 5);
        checks.due("a dearer move: cost", papers.lay(1, 0, 0), 24);
        checks.due("a dearer move: none, box 0 isn't laid", papers.lay(1, 0, 10), PaperKinds.NONE);
        papers.weights(2, 2, 99, 7, 5);
        checks.due("far 2: cost", papers.lay(1, 0, 0), 22);
        checks.due("far 2: the least dx", papers.moved(1, 0, false), -3);
        papers.weights(2, 2, 99, 8, 5);
        checks.due("miss 8: cost", papers.lay(1, 0, 0), 23);
        papers.weights(2, 2, 99, 8, 6);
        checks.due("extra 6: cost", papers.lay(1, 0, 0), 24);
        papers.weights(2, 0, 1, 8, 6);
        checks.due("far 0, code 1: cost", papers.lay(1, 0, 0), 1);
    }

    private static void bounds() {
        PaperKinds papers = new PaperKinds();
        checks.due("the most", papers.bounds(1000, 1000, 1000), true);
        checks.due("the least", papers.bounds(0, 0, 0), true);
        checks.due("bounds()", papers.bounds(6, 7, 8), true);
        for (int which = 0; which < 3; which++) {
            int[] wrong = {-1, 1001, Integer.MIN_VALUE, Integer.MAX_VALUE};
            for (int value : wrong) {
                int[] call = {5, 5, 5};
                call[which] = value;
                checks.due("a wrong bound", papers.bounds(call[0], call[1], call[2]), false);
            }
        }
        for (int which = 6; which <= 8; which++) {
            checks.due("about(" + which + ") unchanged", papers.about(which), which);
        }
    }
}
