/** Promise 17: versions. */
public final class VersionsTest {
    private static final Checks checks = new Checks("VersionsTest");
    private static final int NONE = PaperKinds.NONE;

    public static void main(String[] args) {
        lowerOnOther();
        halfMisses();
        toldApart();
        firstEight();
        wrongQuestions();
        checks.end();
    }

    private static void lowerOnOther() {
        PaperKinds papers = new PaperKinds();
        Checks.pageOfKind(papers, 1, 10, 10, 5);
        Checks.pageOfKind(papers, 3, 10, 10, 5, 20, 20, 6);
        papers.bounds(60, 10, 16);
        checks.due("16 of 16", papers.versions(1, 3, 0), 1);
        checks.due("16 of 16, the other way", papers.versions(3, 1, 0), 1);
        papers.bounds(60, 10, 15);
        checks.due("16 of 15", papers.versions(1, 3, 0), 0);
        checks.due("16 of 15, the other way", papers.versions(3, 1, 0), 0);
        papers.tell(0, 4);
        checks.due("an extra one costs 8", papers.versions(3, 4, 0), 1);
        checks.due("the other way", papers.versions(4, 3, 0), 1);
        papers.bounds(60, 10, 7);
        checks.due("8 of 7", papers.versions(4, 3, 0), 0);
    }

    private static void halfMisses() {
        PaperKinds papers = new PaperKinds();
        Checks.pageOfKind(papers, 0, 10, 10, 5);
        Checks.pageOfKind(papers, 1, 10, 10, 5, 40, 40, 9);
        Checks.pageOfKind(papers, 1, 10, 10, 5);
        papers.bounds(60, 10, 8);
        checks.due("a spot that isn't always there", papers.versions(0, 1, 0), 1);
        papers.bounds(60, 10, 7);
        checks.due("8 of 7", papers.versions(0, 1, 0), 0);
    }

    private static void toldApart() {
        PaperKinds papers = new PaperKinds();
        Checks.pageOfKind(papers, 0, 10, 10, 5, 20, 20, 6, 30, 30, 8);
        Checks.pageOfKind(papers, 1, 11, 10, 5, 20, 20, 6, 30, 30, 9);
        checks.due("by one's alone, not by a place", papers.versions(0, 1, 1), 8);
        checks.due("the other way", papers.versions(1, 0, 1), 8);
        Checks.pageOfKind(papers, 2, 10, 10, 5, 20, 20, 6, 30, 30, 8);
        checks.due("by nothing", papers.versions(0, 2, 1), NONE);
        Checks.pageOfKind(papers, 3, 10, 10, 5, 20, 21, 6, 31, 30, 8);
        checks.due("by a place: y", papers.versions(0, 3, 1), 6);
        Checks.pageOfKind(papers, 4, 10, 10, 5, 20, 20, 6, 31, 30, 8);
        checks.due("by a place: x", papers.versions(4, 0, 1), 8);
        checks.due("by a place: y alone differs", papers.versions(4, 3, 1), 6);
        papers.bounds(60, 10, 0);
        checks.due("no versions", papers.versions(0, 3, 0), 0);
        checks.due("told apart all the same", papers.versions(0, 3, 1), 6);
    }

    private static void firstEight() {
        PaperKinds papers = new PaperKinds();
        for (int page = 0; page < 2; page++) {
            papers.page();
            for (int box = 0; box < 8; box++) {
                papers.box(page, 5 * box, 30 * page, 10 * page + box + 1);
            }
            papers.tell(page, 0);
        }
        checks.due("sixteen spots", papers.kind(0, 1), 16);
        papers.page();
        for (int box = 0; box < 8; box++) {
            papers.box(2, 5 * box, 0, box + 1);
        }
        papers.tell(2, 1);
        papers.bounds(60, 10, 0);
        checks.due("the first 8 are laid, the others no extra", papers.versions(0, 1, 0), 1);
        checks.due("told apart by all", papers.versions(0, 1, 1), 11);
        papers.tell(2, NONE);
        papers.tell(0, 2);
        papers.tell(1, 2);
        papers.tell(2, 1);
        papers.bounds(60, 10, 63);
        checks.due("8 of 16 are missed, half of 16 each", papers.versions(1, 2, 0), 0);
        papers.bounds(60, 10, 64);
        checks.due("64 of 64", papers.versions(1, 2, 0), 1);
    }

    private static void wrongQuestions() {
        PaperKinds papers = new PaperKinds();
        Checks.pageOfKind(papers, 0, 10, 10, 5);
        Checks.pageOfKind(papers, 1, 10, 10, 5);
        int[] wrong = {-2, -1, 0, 2, 5, 16, Integer.MIN_VALUE, Integer.MAX_VALUE};
        for (int kind : wrong) {
            checks.due("versions(0, n, 0)", papers.versions(0, kind, 0), NONE);
            checks.due("versions(n, 0, 1)", papers.versions(kind, 0, 1), NONE);
            if (kind != 0) {
                checks.due("versions(0, 1, n)", papers.versions(0, 1, kind), NONE);
            }
        }
        checks.due("two without pages", papers.versions(2, 3, 0), NONE);
        checks.due("two without pages", papers.versions(2, 3, 1), NONE);
    }
}
