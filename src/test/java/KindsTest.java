/** Promises 4, 7, 8 and 13: tell, kind, spot, told. */
public final class KindsTest {
    private static final Checks checks = new Checks("KindsTest");

    public static void main(String[] args) {
        tell();
        wrongTellings();
        spotsOfHalf();
        middlePlaces();
        noSpots();
        sixteenSpots();
        wrongQuestions();
        checks.end();
    }

    private static void tell() {
        PaperKinds papers = new PaperKinds();
        Checks.pageOf(papers, 1, 2, 3);
        Checks.pageOf(papers, 4, 5, 6);
        checks.due("tell(0, 4)", papers.tell(0, 4), true);
        checks.due("told(0)", papers.told(0), 4);
        checks.due("kind(4, 0)", papers.kind(4, 0), 1);
        checks.due("tell(0, 4) again", papers.tell(0, 4), true);
        checks.due("kind(4, 0) as before", papers.kind(4, 0), 1);
        checks.due("tell(1, 4)", papers.tell(1, 4), true);
        checks.due("kind(4, 0) of two", papers.kind(4, 0), 2);
        checks.due("kind(4, 1) of two", papers.kind(4, 1), 2);
        checks.due("tell(0, 0) in place of 4", papers.tell(0, 0), true);
        checks.due("told(0)", papers.told(0), 0);
        checks.due("kind(4, 0)", papers.kind(4, 0), 1);
        checks.due("kind(0, 0)", papers.kind(0, 0), 1);
        checks.due("spot(4, 0, 0)", papers.spot(4, 0, 0), 6);
        checks.due("tell(0, NONE)", papers.tell(0, PaperKinds.NONE), true);
        checks.due("told(0) of none", papers.told(0), PaperKinds.NONE);
        checks.due("kind(0, 0) of none", papers.kind(0, 0), 0);
        checks.due("kind(0, 1) of none", papers.kind(0, 1), 0);
        checks.due("tell(0, NONE) of none", papers.tell(0, PaperKinds.NONE), true);
    }

    private static void wrongTellings() {
        PaperKinds papers = new PaperKinds();
        papers.page();
        Checks.pageOf(papers, 1, 2, 3);
        checks.due("tell() without boxes", papers.tell(0, 0), false);
        checks.due("tell() of none without boxes", papers.tell(0, PaperKinds.NONE), false);
        checks.due("tell(1, 3)", papers.tell(1, 3), true);
        int[] wrong = {-2, 5, 16, Integer.MIN_VALUE, Integer.MAX_VALUE};
        for (int number : wrong) {
            checks.due("tell(1, " + number + ")", papers.tell(1, number), false);
            checks.due("tell(" + number + ", 1)", papers.tell(number, 1), false);
            checks.due("told(" + number + ")", papers.told(number), PaperKinds.NONE);
        }
        checks.due("tell(-1, 1)", papers.tell(-1, 1), false);
        checks.due("tell(2, 1)", papers.tell(2, 1), false);
        checks.due("told(1) after wrong ones", papers.told(1), 3);
        checks.due("told(0)", papers.told(0), PaperKinds.NONE);
        checks.due("told(2)", papers.told(2), PaperKinds.NONE);
    }

    private static void spotsOfHalf() {
        PaperKinds papers = new PaperKinds();
        Checks.pageOfKind(papers, 1, 10, 10, 50, 20, 20, 9);
        Checks.pageOfKind(papers, 1, 12, 11, 50, 22, 22, 3);
        checks.due("half of two is enough", papers.kind(1, 1), 3);
        checks.due("by rising codes: 3", papers.spot(1, 0, 0), 3);
        checks.due("by rising codes: 9", papers.spot(1, 1, 0), 9);
        checks.due("by rising codes: 50", papers.spot(1, 2, 0), 50);
        checks.due("3 is not always there", papers.spot(1, 0, 3), 0);
        checks.due("50 is always there", papers.spot(1, 2, 3), 1);
        Checks.pageOfKind(papers, 1, 14, 9, 50, 30, 30, 3);
        checks.due("one of three is not enough", papers.kind(1, 1), 2);
        checks.due("two of three are", papers.spot(1, 0, 0), 3);
        checks.due("not always", papers.spot(1, 0, 3), 0);
        checks.due("50 is", papers.spot(1, 1, 0), 50);
        checks.due("always", papers.spot(1, 1, 3), 1);
        checks.due("pages of other kinds don't count", papers.kind(0, 1), 0);
    }

    private static void middlePlaces() {
        PaperKinds papers = new PaperKinds();
        Checks.pageOfKind(papers, 0, 40, 1, 7);
        Checks.pageOfKind(papers, 0, 10, 9, 7);
        checks.due("x of two: the lower", papers.spot(0, 0, 1), 10);
        checks.due("y of two: the lower", papers.spot(0, 0, 2), 1);
        Checks.pageOfKind(papers, 0, 30, 5, 7);
        checks.due("x of three", papers.spot(0, 0, 1), 30);
        checks.due("y of three", papers.spot(0, 0, 2), 5);
        Checks.pageOfKind(papers, 0, 20, 2, 7);
        checks.due("x of four", papers.spot(0, 0, 1), 20);
        checks.due("y of four", papers.spot(0, 0, 2), 2);
        Checks.pageOfKind(papers, 0, 63, 63, 7);
        checks.due("x of five", papers.spot(0, 0, 1), 30);
        checks.due("y of five", papers.spot(0, 0, 2), 5);
        Checks.pageOfKind(papers, 0, 0, 0, 8);
        checks.due("a page without the code doesn't count", papers.spot(0, 0, 1), 30);
        checks.due("but it isn't always there", papers.spot(0, 0, 3), 0);
    }

    private static void noSpots() {
        PaperKinds papers = new PaperKinds();
        Checks.pageOfKind(papers, 3, 1, 1, 1);
        Checks.pageOfKind(papers, 3, 1, 1, 2);
        Checks.pageOfKind(papers, 3, 1, 1, 3);
        checks.due("three pages", papers.kind(3, 0), 3);
        checks.due("and no spot", papers.kind(3, 1), 0);
        checks.due("spot(3, 0, 0)", papers.spot(3, 0, 0), PaperKinds.NONE);
    }

    private static void sixteenSpots() {
        PaperKinds papers = new PaperKinds();
        for (int page = 0; page < 4; page++) {
            papers.page();
            for (int box = 0; box < 8; box++) {
                papers.box(page, box, page, 99 - (page % 2) * 8 - box);
            }
            papers.tell(page, 2);
        }
        checks.due("sixteen spots", papers.kind(2, 1), 16);
        for (int spot = 0; spot < 16; spot++) {
            checks.due("their codes", papers.spot(2, spot, 0), 84 + spot);
            checks.due("their x", papers.spot(2, spot, 1), 7 - spot % 8);
            checks.due("their y", papers.spot(2, spot, 2), spot < 8 ? 1 : 0);
            checks.due("none always there", papers.spot(2, spot, 3), 0);
        }
        checks.due("spot(2, 16, 0)", papers.spot(2, 16, 0), PaperKinds.NONE);
    }

    private static void wrongQuestions() {
        PaperKinds papers = new PaperKinds();
        Checks.pageOfKind(papers, 0, 1, 2, 3);
        int[] wrong = {-2, -1, 5, 16, Integer.MIN_VALUE, Integer.MAX_VALUE};
        for (int number : wrong) {
            checks.due("kind(n, 0)", papers.kind(number, 0), PaperKinds.NONE);
            checks.due("kind(0, n)", papers.kind(0, number), PaperKinds.NONE);
            checks.due("spot(n, 0, 0)", papers.spot(number, 0, 0), PaperKinds.NONE);
            checks.due("spot(0, n, 0)", papers.spot(0, number, 0), PaperKinds.NONE);
            checks.due("spot(0, 0, n)", papers.spot(0, 0, number), PaperKinds.NONE);
        }
        checks.due("kind(0, 2)", papers.kind(0, 2), PaperKinds.NONE);
        checks.due("spot(0, 1, 0)", papers.spot(0, 1, 0), PaperKinds.NONE);
        checks.due("spot(0, 0, 4)", papers.spot(0, 0, 4), PaperKinds.NONE);
        checks.due("spot(1, 0, 0)", papers.spot(1, 0, 0), PaperKinds.NONE);
    }
}
