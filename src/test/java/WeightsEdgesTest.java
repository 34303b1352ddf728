/** The edges that promises 5 and 6 name, and the ranges of WEIGHTS, LIMIT, GAP and HEAP. */
public final class WeightsEdgesTest {
    private static final Checks checks = new Checks("WeightsEdgesTest");
    private static final int LEAST = Integer.MIN_VALUE;
    private static final int MOST = Integer.MAX_VALUE;
    private static final int UNKNOWN = 10;
    private static final int PERSON = 11;

    public static void main(String[] args) {
        firstWeights();
        edgesOfWeights();
        otherWeights();
        edgesInCosts();
        edgesOfBounds();
        otherBounds();
        firstLimit();
        mostLimit();
        leastLimit();
        firstGap();
        mostGap();
        firstHeap();
        mostHeap();
        checks.end();
    }

    private static boolean weights(PaperKinds papers, int[] to) {
        return papers.weights(to[0], to[1], to[2], to[3], to[4]);
    }

    private static boolean bounds(PaperKinds papers, int[] to) {
        return papers.bounds(to[0], to[1], to[2]);
    }

    private static void firstWeights() {
        checks.says("WEIGHTS: .. at first 1, 1, 20, 16, 8");
        PaperKinds papers = new PaperKinds();
        Checks.pageOfKind(papers, 0, 10, 10, 5, 10, 20, 6, 10, 30, 7, 60, 60, 9);
        Checks.pageOf(papers, 10, 11, 5, 10, 21, 6, 10, 31, 8, 40, 1, 3);
        // A move of 1, a code that differs, a spot that is missed, a box that is extra.
        checks.due("lay(1, 0, 0)", papers.lay(1, 0, 0), 1 + 20 + 16 + 8);
        papers.box(1, 10, 21, 4);
        checks.due("an extra one more", papers.lay(1, 0, 0), 1 + 20 + 16 + 8 + 8);
        PaperKinds far = new PaperKinds();
        Checks.pageOfKind(far, 0, 10, 10, 5);
        Checks.pageOf(far, 10, 33, 5);
        checks.due("3 by moving and 20 by being far", far.lay(1, 0, 0), 23);
        checks.due("moved(1, 0, true)", far.moved(1, 0, true), -3);
    }

    private static void edgesOfWeights() {
        checks.says("MOVE, FAR (0 .. 9), CODE, MISS, EXTRA (0 .. 99) .. true.");
        int[] most = {9, 9, 99, 99, 99};
        for (int which = 0; which < 5; which++) {
            int[] edges = {0, most[which]};
            for (int edge : edges) {
                int[] to = {4, 5, 6, 7, 8};
                to[which] = edge;
                PaperKinds papers = new PaperKinds();
                checks.due("weights()", weights(papers, to), true);
                for (int what = 1; what <= 5; what++) {
                    checks.due("about(" + what + ")", papers.about(what), to[what - 1]);
                }
            }
        }
    }

    private static void otherWeights() {
        checks.says("WEIGHTS: .. False, changing nothing, for others.");
        int[] most = {9, 9, 99, 99, 99};
        for (int which = 0; which < 5; which++) {
            int[] others = {-1, most[which] + 1, LEAST, MOST};
            for (int other : others) {
                int[] to = {0, 0, 0, 0, 0};
                to[which] = other;
                checks.dueWithoutChange("weight " + which + " of " + other,
                        p -> weights(p, to) ? 1 : 0, 0);
            }
        }
    }

    private static void edgesInCosts() {
        checks.says("MOVE times .. FAR times .. CODE if .. MISS of each .. EXTRA of each");
        PaperKinds papers = new PaperKinds();
        Checks.pageOfKind(papers, 0, 10, 10, 1, 20, 20, 2);
        Checks.pageOf(papers, 12, 10, 1, 22, 20, 2);
        papers.weights(9, 9, 99, 99, 99);
        checks.due("MOVE 9: a move of 2", papers.lay(1, 0, 0), 18);
        papers.weights(0, 9, 99, 99, 99);
        checks.due("MOVE 0: a move of 2", papers.lay(1, 0, 0), 0);
        papers.weights(9, 1, 99, 99, 99);
        checks.due("FAR 1: 2 of two boxes", papers.lay(1, 0, 0), 4);
        papers.weights(9, 0, 99, 99, 99);
        checks.due("FAR 0", papers.lay(1, 0, 0), 0);
        Checks.pageOf(papers, 10, 10, 3, 20, 20, 4);
        papers.weights(9, 9, 99, 99, 99);
        checks.due("CODE 99: two that differ", papers.lay(2, 0, 0), 198);
        papers.weights(9, 9, 0, 99, 99);
        checks.due("CODE 0: two that differ", papers.lay(2, 0, 0), 0);
        papers.page();
        checks.due("MISS 99: two that are missed", papers.lay(3, 0, 0), 198);
        papers.weights(9, 9, 0, 0, 99);
        checks.due("MISS 0: two that are missed", papers.lay(3, 0, 0), 0);
        Checks.pageOf(papers, 63, 0, 3, 0, 63, 4);
        checks.due("EXTRA 99: two that are extra", papers.lay(4, 0, 0), 198);
        papers.weights(9, 9, 0, 0, 0);
        checks.due("EXTRA 0: two that are extra", papers.lay(4, 0, 0), 0);
    }

    private static void edgesOfBounds() {
        checks.says("LIMIT, GAP, HEAP [each 0 .. 1000]: true.");
        for (int which = 0; which < 3; which++) {
            int[] edges = {0, 1000};
            for (int edge : edges) {
                int[] to = {40, 50, 60};
                to[which] = edge;
                PaperKinds papers = new PaperKinds();
                checks.due("bounds()", bounds(papers, to), true);
                for (int what = 6; what <= 8; what++) {
                    checks.due("about(" + what + ")", papers.about(what), to[what - 6]);
                }
            }
        }
    }

    private static void otherBounds() {
        checks.says("LIMIT, GAP, HEAP: .. False, changing nothing, for others.");
        for (int which = 0; which < 3; which++) {
            int[] others = {-1, 1001, LEAST, MOST};
            for (int other : others) {
                int[] to = {0, 0, 0};
                to[which] = other;
                checks.dueWithoutChange("bound " + which + " of " + other,
                        p -> bounds(p, to) ? 1 : 0, 0);
            }
        }
    }

    /** A page that costs 56 more than its first box is off, on a kind of one spot. */
    private static PaperKinds withSevenExtraBoxes(int off) {
        PaperKinds papers = new PaperKinds();
        Checks.pageOfKind(papers, 3, 10, 10, 5);
        Checks.pageOf(papers, 10, 10 + off, 5);
        for (int code = 11; code <= 17; code++) {
            papers.box(1, 60, 60, code);
        }
        return papers;
    }

    private static void firstLimit() {
        checks.says("LIMIT (.. at first 60)");
        PaperKinds at = withSevenExtraBoxes(4);
        checks.due("lay(1, 3, 0)", at.lay(1, 3, 0), 60);
        checks.due("sorted(1) at 60", at.sorted(1), 3);
        PaperKinds above = withSevenExtraBoxes(5);
        checks.due("lay(1, 3, 0)", above.lay(1, 3, 0), 61);
        checks.due("sorted(1) at 61", above.sorted(1), UNKNOWN);
    }

    /** A page of 7 boxes in one corner, and one of 8 in the other: 7 EXTRA and 8 MISS apart. */
    private static PaperKinds farPages(int kind) {
        PaperKinds papers = new PaperKinds();
        Checks.pageOfMany(papers, 7, 0, 0, 1);
        papers.tell(Checks.pageOfMany(papers, 8, 63, 63, 21), kind);
        return papers;
    }

    private static void costs999(PaperKinds papers) {
        papers.weights(1, 9, 99, 40, 97);
    }

    private static void costs1000(PaperKinds papers) {
        papers.weights(1, 9, 99, 41, 96);
    }

    private static void costs1001(PaperKinds papers) {
        papers.weights(1, 9, 99, 42, 95);
    }

    private static void mostLimit() {
        checks.says("LIMIT (0 .. 1000");
        PaperKinds papers = farPages(4);
        papers.bounds(1000, 0, 0);
        costs1000(papers);
        checks.due("lay(0, 4, 0)", papers.lay(0, 4, 0), 1000);
        checks.due("sorted(0) at 1000", papers.sorted(0), 4);
        costs1001(papers);
        checks.due("lay(0, 4, 0)", papers.lay(0, 4, 0), 1001);
        checks.due("sorted(0) at 1001", papers.sorted(0), UNKNOWN);
        papers.bounds(999, 0, 0);
        costs1000(papers);
        checks.due("sorted(0) at 1000 of 999", papers.sorted(0), UNKNOWN);
    }

    private static void leastLimit() {
        checks.says("LIMIT (0 ..");
        PaperKinds papers = new PaperKinds();
        Checks.pageOfKind(papers, 4, 10, 10, 5);
        Checks.pageOf(papers, 10, 11, 5);
        papers.bounds(0, 10, 30);
        checks.due("sorted(0) at 0", papers.sorted(0), 4);
        checks.due("sorted(1) at 1", papers.sorted(1), UNKNOWN);
        papers.bounds(1, 10, 30);
        checks.due("sorted(1) at 1 of 1", papers.sorted(1), 4);
    }

    private static void firstGap() {
        checks.says("GAP (.. at first 10)");
        PaperKinds papers = new PaperKinds();
        Checks.pageOfKind(papers, 0, 10, 10, 5);
        Checks.pageOfKind(papers, 1, 10, 20, 5);
        Checks.pageOfKind(papers, 2, 10, 49, 6);
        Checks.pageOfKind(papers, 3, 10, 40, 6);
        checks.due("sorted(0): the next one 10 above", papers.sorted(0), 0);
        checks.due("sorted(2): the next one 9 above", papers.sorted(2), PERSON);
    }

    private static void mostGap() {
        checks.says("GAP (0 .. 1000");
        PaperKinds papers = farPages(4);
        papers.tell(0, 2);
        papers.bounds(0, 1000, 0);
        costs1000(papers);
        checks.due("lay(0, 2, 0)", papers.lay(0, 2, 0), 0);
        checks.due("lay(0, 4, 0)", papers.lay(0, 4, 0), 1000);
        checks.due("sorted(0): 1000 above", papers.sorted(0), 2);
        costs999(papers);
        checks.due("lay(0, 4, 0)", papers.lay(0, 4, 0), 999);
        checks.due("sorted(0): 999 above", papers.sorted(0), PERSON);
        papers.bounds(0, 999, 0);
        checks.due("sorted(0): 999 above of 999", papers.sorted(0), 2);
    }

    private static void firstHeap() {
        checks.says("HEAP (.. at first 30)");
        for (int off = 6; off <= 7; off++) {
            PaperKinds papers = new PaperKinds();
            Checks.pageOf(papers, 10, 10, 5, 60, 60, 6, 60, 60, 7, 60, 60, 8);
            Checks.pageOf(papers, 10, 10 + off, 5);
            // 24 for three that are extra.
            checks.due("heaps() at " + (24 + off), papers.heaps(), off == 6 ? 1 : 2);
            papers.tell(0, 0);
            papers.tell(1, 1);
            checks.due("lay(0, 1, 0)", papers.lay(0, 1, 0), 24 + off);
            checks.due("versions(0, 1, 0)", papers.versions(0, 1, 0), off == 6 ? 1 : 0);
        }
    }

    private static void mostHeap() {
        checks.says("HEAP (0 .. 1000");
        PaperKinds papers = farPages(PaperKinds.NONE);
        papers.bounds(0, 0, 1000);
        costs1000(papers);
        checks.due("heaps() at 1000", papers.heaps(), 1);
        costs1001(papers);
        checks.due("heaps() at 1001", papers.heaps(), 2);
        papers.tell(0, 0);
        papers.tell(1, 1);
        checks.due("versions(0, 1, 0) at 1001", papers.versions(0, 1, 0), 0);
        costs1000(papers);
        checks.due("versions(0, 1, 0) at 1000", papers.versions(0, 1, 0), 1);
        papers.bounds(0, 0, 999);
        checks.due("versions(0, 1, 0) at 1000 of 999", papers.versions(0, 1, 0), 0);
    }
}
