/** The edges that promise 17 names, and the terms VERSIONS and TOLD APART. */
public final class VersionsEdgesTest {
    private static final Checks checks = new Checks("VersionsEdgesTest");
    private static final int NONE = PaperKinds.NONE;
    private static final int LEAST = Integer.MIN_VALUE;
    private static final int MOST = Integer.MAX_VALUE;

    public static void main(String[] args) {
        noMoreThanHeap();
        lowerOnOther();
        notAlwaysThere();
        firstEight();
        withoutSpots();
        codeOfOneAlone();
        places();
        byNothing();
        apartBeyondEight();
        others();
        theSame();
        withoutPages();
        checks.end();
    }

    /** Asked both ways: the order of the two is nothing. */
    private static void due(String of, PaperKinds papers, int a, int b, int what, int want) {
        checks.due(of + ": versions(a, b, " + what + ")", papers.versions(a, b, what), want);
        checks.due(of + ": versions(b, a, " + what + ")", papers.versions(b, a, what), want);
    }

    private static void noMoreThanHeap() {
        checks.says("two KINDS are if THE LAYING .. costs no more than HEAP");
        PaperKinds papers = new PaperKinds();
        papers.weights(9, 1, 99, 99, 99);
        Checks.pageOfKind(papers, 0, 10, 10, 5);
        Checks.pageOfKind(papers, 4, 10, 17, 5);
        for (int heap = 0; heap <= 9; heap++) {
            papers.bounds(0, 0, heap);
            due("7 of " + heap, papers, 0, 4, 0, heap >= 7 ? 1 : 0);
        }
        Checks.pageOfKind(papers, 2, 10, 10, 5);
        papers.bounds(0, 0, 0);
        due("0 of 0", papers, 0, 2, 0, 1);
    }

    private static void lowerOnOther() {
        checks.says("THE LAYING of the lower one's SPOTS (as BOXES ..) on the other's SPOTS");
        PaperKinds papers = new PaperKinds();
        papers.weights(9, 1, 99, 20, 10);
        Checks.pageOfKind(papers, 1, 10, 10, 5);
        Checks.pageOfKind(papers, 2, 10, 10, 5, 50, 50, 6);
        Checks.pageOfKind(papers, 3, 10, 10, 5);
        int[] heaps = {9, 10, 19, 20};
        for (int heap : heaps) {
            papers.bounds(0, 0, heap);
            due("one that is missed of " + heap, papers, 1, 2, 0, heap >= 20 ? 1 : 0);
            due("one that is extra of " + heap, papers, 2, 3, 0, heap >= 10 ? 1 : 0);
        }
    }

    private static void notAlwaysThere() {
        checks.says("on the other's SPOTS");
        PaperKinds papers = new PaperKinds();
        papers.weights(9, 1, 99, 99, 99);
        Checks.pageOfKind(papers, 1, 10, 10, 5);
        Checks.pageOfKind(papers, 2, 10, 10, 5, 50, 50, 6);
        Checks.pageOfKind(papers, 2, 10, 10, 5);
        Checks.pageOfKind(papers, 3, 10, 10, 5);
        papers.bounds(0, 0, 48);
        due("half a MISS of 99 of 48", papers, 1, 2, 0, 0);
        papers.bounds(0, 0, 49);
        due("half a MISS of 99 of 49", papers, 1, 2, 0, 1);
        papers.bounds(0, 0, 98);
        due("an EXTRA isn't halved: 99 of 98", papers, 2, 3, 0, 0);
        papers.bounds(0, 0, 99);
        due("an EXTRA of 99 of 99", papers, 2, 3, 0, 1);
    }

    /** A kind of so many spots from code 1 on, each in a place of its own. */
    private static void kindOf(PaperKinds papers, int kind, int spots) {
        for (int first = 1; first <= spots; first += 8) {
            int page = papers.page();
            for (int code = first; code < first + 8 && code <= spots; code++) {
                papers.box(page, 20 * (code % 4), 15 * (code / 4), code);
            }
            papers.tell(page, kind);
        }
    }

    private static void firstEight() {
        checks.says("(as BOXES, by rising CODES; the first 8)");
        PaperKinds papers = new PaperKinds();
        papers.weights(1, 1, 20, 16, 8);
        papers.bounds(0, 0, 0);
        kindOf(papers, 0, 9);
        kindOf(papers, 1, 8);
        kindOf(papers, 2, 7);
        kindOf(papers, 3, 16);
        checks.due("kind(0, 1)", papers.kind(0, 1), 9);
        checks.due("kind(3, 1)", papers.kind(3, 1), 16);
        due("the ninth is not extra", papers, 0, 1, 0, 1);
        papers.bounds(0, 0, 7);
        due("the eighth is: 8 of 7", papers, 1, 2, 0, 0);
        due("the eighth of nine is: 8 of 7", papers, 0, 2, 0, 0);
        papers.bounds(0, 0, 8);
        due("the eighth is: 8 of 8", papers, 1, 2, 0, 1);
        due("the eighth of nine is: 8 of 8", papers, 0, 2, 0, 1);
        // All 16 of the other are there; those that the first 8 leave are missed by half.
        papers.bounds(0, 0, 63);
        due("nine on 16: 64 of 63", papers, 0, 3, 0, 0);
        papers.bounds(0, 0, 64);
        due("nine on 16: 64 of 64", papers, 0, 3, 0, 1);
    }

    private static void withoutSpots() {
        checks.says("two KINDS are if .. [without SPOTS]");
        PaperKinds papers = new PaperKinds();
        for (int page = 0; page < 6; page++) {
            Checks.pageOfKind(papers, 1 + page / 3 * 2, 10, 10, 1 + page);
        }
        Checks.pageOfKind(papers, 2, 10, 10, 9);
        checks.due("kind(1, 1)", papers.kind(1, 1), 0);
        checks.due("kind(3, 1)", papers.kind(3, 1), 0);
        papers.bounds(0, 0, 0);
        due("both without", papers, 1, 3, 0, 1);
        due("both without", papers, 1, 3, 1, NONE);
        papers.bounds(0, 0, 15);
        due("the lower one without: 16 of 15", papers, 1, 2, 0, 0);
        due("the lower one without", papers, 1, 2, 1, 9);
        papers.bounds(0, 0, 16);
        due("the lower one without: 16 of 16", papers, 1, 2, 0, 1);
        papers.bounds(0, 0, 7);
        due("the other one without: 8 of 7", papers, 2, 3, 0, 0);
        papers.bounds(0, 0, 8);
        due("the other one without: 8 of 8", papers, 2, 3, 0, 1);
    }

    private static void codeOfOneAlone() {
        checks.says("They are TOLD APART by the least CODE that is a SPOT of one of them alone");
        PaperKinds papers = new PaperKinds();
        Checks.pageOfKind(papers, 0, 10, 10, 2, 20, 20, 98);
        Checks.pageOfKind(papers, 1, 11, 11, 2, 20, 20, 98, 30, 30, 99);
        due("the other's alone, above a place", papers, 0, 1, 1, 99);
        Checks.pageOfKind(papers, 2, 40, 40, 1, 11, 11, 2, 20, 20, 98, 30, 30, 97);
        due("of two the least", papers, 1, 2, 1, 1);
        due("the other's least", papers, 0, 2, 1, 1);
        Checks.pageOfKind(papers, 2, 11, 11, 2, 20, 20, 98, 30, 30, 97);
        Checks.pageOfKind(papers, 2, 11, 11, 2, 20, 20, 98, 30, 30, 97);
        checks.due("kind(2, 1): 1 is no spot now", papers.kind(2, 1), 3);
        due("one that is no spot is nothing", papers, 1, 2, 1, 97);
    }

    private static void places() {
        checks.says("without such, by the least one of which places differ");
        PaperKinds papers = new PaperKinds();
        Checks.pageOfKind(papers, 0, 10, 10, 1, 20, 20, 50, 30, 30, 99);
        Checks.pageOfKind(papers, 1, 11, 10, 1, 20, 20, 50, 30, 30, 99);
        Checks.pageOfKind(papers, 2, 10, 10, 1, 20, 21, 50, 31, 30, 99);
        Checks.pageOfKind(papers, 3, 10, 10, 1, 20, 20, 50, 30, 29, 99);
        due("x of the first", papers, 0, 1, 1, 1);
        due("y of the second, x of the third", papers, 0, 2, 1, 50);
        due("y of the third", papers, 0, 3, 1, 99);
        papers.bounds(0, 0, 0);
        due("no versions", papers, 0, 1, 0, 0);
        due("no versions: x of the first", papers, 0, 1, 1, 1);
    }

    private static void byNothing() {
        checks.says("by which CODE they are TOLD APART (1; NONE: by nothing)");
        PaperKinds papers = new PaperKinds();
        Checks.pageOfKind(papers, 3, 10, 10, 1, 20, 20, 50);
        Checks.pageOfKind(papers, 4, 10, 10, 1, 20, 20, 50);
        due("alike", papers, 3, 4, 1, NONE);
        // A page without code 50: there it isn't always, but in the same place.
        Checks.pageOfKind(papers, 4, 10, 10, 1);
        checks.due("spot(4, 1, 3)", papers.spot(4, 1, 3), 0);
        due("alike but for ALWAYS", papers, 3, 4, 1, NONE);
    }

    private static void apartBeyondEight() {
        checks.says("the least CODE that is a SPOT of one of them alone [of more than 8]");
        PaperKinds papers = new PaperKinds();
        kindOf(papers, 0, 16);
        kindOf(papers, 1, 15);
        due("the last of 16", papers, 0, 1, 1, 16);
        kindOf(papers, 2, 15);
        due("15 alike", papers, 1, 2, 1, NONE);
    }

    private static void others() {
        checks.says("NONE for others");
        PaperKinds papers = Example.papers();
        due("versions of the example", papers, 0, 1, 0, 1);
        due("told apart", papers, 0, 1, 1, 7);
        int[] kinds = {-1, -2, 5, 16, LEAST, MOST};
        for (int kind : kinds) {
            due("kind " + kind, papers, 0, kind, 0, NONE);
            due("kind " + kind, papers, kind, 1, 1, NONE);
        }
        int[] whats = {-1, 2, 3, LEAST, MOST};
        for (int what : whats) {
            due("what " + what, papers, 0, 1, what, NONE);
        }
        due("two others", papers, -1, 5, 0, NONE);
    }

    private static void theSame() {
        checks.says("NONE for .. the same");
        PaperKinds papers = Example.papers();
        for (int kind = NONE; kind <= 5; kind++) {
            due("kind " + kind, papers, kind, kind, 0, NONE);
            due("kind " + kind, papers, kind, kind, 1, NONE);
        }
    }

    private static void withoutPages() {
        checks.says("NONE for .. a KIND without PAGES");
        PaperKinds papers = Example.papers();
        for (int kind = 2; kind < 5; kind++) {
            due("the other", papers, 0, kind, 0, NONE);
            due("the other", papers, 1, kind, 1, NONE);
        }
        due("both", papers, 2, 3, 0, NONE);
        due("both", papers, 3, 4, 1, NONE);
        papers.tell(0, NONE);
        due("told no more", papers, 0, 1, 0, NONE);
        due("told no more", papers, 0, 1, 1, NONE);
    }
}
