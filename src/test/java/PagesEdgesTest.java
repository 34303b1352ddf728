/** The edges that promises 1 to 3 and 19 name, and the terms PAGES, BOXES, places and CODES. */
public final class PagesEdgesTest {
    private static final Checks checks = new Checks("PagesEdgesTest");
    private static final int NONE = PaperKinds.NONE;
    private static final int LEAST = Integer.MIN_VALUE;
    private static final int MOST = Integer.MAX_VALUE;

    public static void main(String[] args) {
        lastCall();
        newObject();
        numbersOfPages();
        lastPage();
        seventeenthPage();
        numbersOfBoxes();
        ninthBox();
        places();
        codes();
        codeTwice();
        boxesOfOthers();
        about();
        aboutOthers();
        checks.end();
    }

    private static void lastCall() {
        checks.says("An object is used for at most 512 calls after it has been made");
        PaperKinds papers = new PaperKinds();
        Checks.pageOfKind(papers, 0, 10, 10, 5);
        Checks.pageOf(papers, 10, 10, 5, 40, 40, 6);
        int calls = 6;
        for (int extra = 0; calls < 510; extra = (extra + 1) % 100) {
            papers.weights(1, 1, 20, 16, extra);
            checks.due("lay(1, 0, 0)", papers.lay(1, 0, 0), extra);
            calls += 2;
        }
        checks.due("page() as call 511", papers.page(), 2);
        checks.due("box() as call 512", papers.box(2, 0, 0, 1), 0);

        checks.says("what later calls answer is free");
        for (int more = 0; more < 600; more++) {
            papers.box(papers.page(), more, more, more);
            papers.tell(more % 16, more % 6);
            papers.touch(more % 16, more % 5);
        }
        checks.due("calls that end", true, true);
    }

    private static void newObject() {
        checks.says("No PAGES; nothing told.");
        PaperKinds other = new PaperKinds();
        Checks.pageOfKind(other, 0, 10, 10, 5);
        PaperKinds papers = new PaperKinds();
        checks.due("about(0)", papers.about(0), 0);
        for (int page = 0; page < 16; page++) {
            checks.due("about(20 + p)", papers.about(20 + page), NONE);
            checks.due("told(p)", papers.told(page), NONE);
            checks.due("sorted(p)", papers.sorted(page), NONE);
            checks.due("heap(p)", papers.heap(page), NONE);
            checks.due("tell(p, 0)", papers.tell(page, 0), false);
            checks.due("touch(p, 0)", papers.touch(page, 0), NONE);
        }
        for (int kind = 0; kind < 5; kind++) {
            checks.due("kind(k, 0)", papers.kind(kind, 0), 0);
            checks.due("kind(k, 1)", papers.kind(kind, 1), 0);
        }
        checks.due("look()", papers.look(), NONE);
        checks.due("heaps()", papers.heaps(), 0);
        checks.due("the first page()", papers.page(), 0);
        checks.due("another object's about(0)", other.about(0), 1);
        checks.due("another object's told(0)", other.told(0), 0);
    }

    private static void numbersOfPages() {
        checks.says("A PAGE without BOXES: its number.");
        PaperKinds papers = new PaperKinds();
        for (int page = 0; page < 16; page++) {
            checks.due("told(p) before", papers.told(page), NONE);
            checks.due("sorted(p) before", papers.sorted(page), NONE);
            checks.due("page()", papers.page(), page);
            checks.due("about(0)", papers.about(0), page + 1);
            checks.due("about(20 + p)", papers.about(20 + page), 0);
            checks.due("about(20 + p) of the next", papers.about(21 + page), NONE);
            checks.due("sorted(p)", papers.sorted(page), 10);
            checks.due("tell(p, 0)", papers.tell(page, 0), false);
        }
    }

    private static void lastPage() {
        checks.says("PAGES 0 .. 15");
        PaperKinds papers = new PaperKinds();
        for (int page = 0; page < 16; page++) {
            Checks.pageOf(papers, 10, 10, 5);
        }
        checks.due("tell(15, 4)", papers.tell(15, 4), true);
        checks.due("told(15)", papers.told(15), 4);
        checks.due("sorted(15)", papers.sorted(15), 4);
        checks.due("box(15, 20, 20, 6)", papers.box(15, 20, 20, 6), 1);
        checks.due("about(35)", papers.about(35), 2);
        checks.due("kind(4, 1)", papers.kind(4, 1), 2);
        checks.due("lay(15, 4, 11)", papers.lay(15, 4, 11), 1);
        checks.due("moved(15, 4, false)", papers.moved(15, 4, false), 0);
        checks.due("read(15, 4, 1)", papers.read(15, 4, 1), 6);
        checks.due("touch(15, NONE)", papers.touch(15, NONE), 16);
        checks.due("tell(15, NONE)", papers.tell(15, NONE), true);
        checks.due("heap(15)", papers.heap(15), 0);
        int[] others = {-1, 16, 17, LEAST, MOST};
        for (int page : others) {
            checks.due("told(" + page + ")", papers.told(page), NONE);
            checks.due("sorted(" + page + ")", papers.sorted(page), NONE);
            checks.due("heap(" + page + ")", papers.heap(page), NONE);
            checks.due("box(" + page + ", ..)", papers.box(page, 1, 1, 1), NONE);
            checks.due("tell(" + page + ", 0)", papers.tell(page, 0), false);
            checks.due("touch(" + page + ", 0)", papers.touch(page, 0), NONE);
        }
    }

    private static void seventeenthPage() {
        checks.says("NONE if there are 16.");
        PaperKinds papers = Example.papers();
        for (int page = Example.PAGES; page < 16; page++) {
            checks.due("page()", papers.page(), page);
        }
        for (int again = 0; again < 3; again++) {
            checks.due("page() of 16", papers.page(), NONE);
            checks.due("about(0)", papers.about(0), 16);
            checks.due("about(36)", papers.about(36), NONE);
        }
        checks.due("about(20)", papers.about(20), 2);
        checks.due("told(1)", papers.told(1), 1);
        checks.due("about(35)", papers.about(35), 0);
    }

    private static void numbersOfBoxes() {
        checks.says("A BOX of a PAGE: its number there.");
        PaperKinds papers = new PaperKinds();
        papers.page();
        papers.page();
        for (int box = 0; box < 8; box++) {
            checks.due("box(0, ..)", papers.box(0, 10, 10, 50 + box), box);
            checks.due("box(1, ..)", papers.box(1, 10, 10, 50 - box), box);
            checks.due("about(20)", papers.about(20), box + 1);
            checks.due("about(21)", papers.about(21), box + 1);
        }
    }

    private static void ninthBox() {
        checks.says("up to 8 BOXES .. NONE: .. there are 8");
        PaperKinds papers = new PaperKinds();
        papers.tell(Checks.pageOfMany(papers, 7, 10, 10, 1), 0);
        checks.due("the eighth", papers.box(0, 20, 20, 8), 7);
        checks.due("the ninth", papers.box(0, 30, 30, 9), NONE);
        checks.due("a ninth of a code that is there", papers.box(0, 30, 30, 8), NONE);
        checks.due("about(20)", papers.about(20), 8);
        checks.due("kind(0, 1)", papers.kind(0, 1), 8);
        checks.due("spot(0, 7, 1) of the eighth", papers.spot(0, 7, 1), 20);
        checks.due("lay(0, 0, 17) of the eighth", papers.lay(0, 0, 17), 7);
        checks.due("lay(0, 0, 18)", papers.lay(0, 0, 18), NONE);
        papers.page();
        checks.due("a box of another page", papers.box(1, 30, 30, 9), 0);
    }

    private static void places() {
        checks.says("a place (x, y: 0 .. 63)");
        int[] edges = {0, 63};
        for (int edge : edges) {
            PaperKinds papers = new PaperKinds();
            papers.page();
            checks.due("x " + edge, papers.box(0, edge, 31, 1), 0);
            checks.due("y " + edge, papers.box(0, 32, edge, 2), 1);
            papers.tell(0, 0);
            checks.due("x of the first", papers.spot(0, 0, 1), edge);
            checks.due("y of the first", papers.spot(0, 0, 2), 31);
            checks.due("x of the second", papers.spot(0, 1, 1), 32);
            checks.due("y of the second", papers.spot(0, 1, 2), edge);
        }
        int[] others = {-1, 64, -64, 127, LEAST, MOST};
        for (int other : others) {
            checks.dueWithoutChange("box with x " + other, p -> p.box(2, other, 31, 1), NONE);
            checks.dueWithoutChange("box with y " + other, p -> p.box(2, 31, other, 1), NONE);
        }
    }

    private static void codes() {
        checks.says("a CODE (1 .. 99)");
        PaperKinds papers = new PaperKinds();
        papers.page();
        checks.due("code 1", papers.box(0, 10, 10, 1), 0);
        checks.due("code 99", papers.box(0, 20, 20, 99), 1);
        papers.tell(0, 0);
        checks.due("kind(0, 1)", papers.kind(0, 1), 2);
        checks.due("spot(0, 0, 0)", papers.spot(0, 0, 0), 1);
        checks.due("spot(0, 1, 0)", papers.spot(0, 1, 0), 99);
        int[] others = {0, 100, -1, -99, LEAST, MOST};
        for (int other : others) {
            checks.dueWithoutChange("box of code " + other, p -> p.box(2, 31, 31, other), NONE);
        }
    }

    private static void codeTwice() {
        checks.says("no two of a PAGE of one CODE .. NONE: .. or one has that CODE");
        checks.dueWithoutChange("the first box's code", p -> p.box(5, 1, 1, 5), NONE);
        checks.dueWithoutChange("the last box's code", p -> p.box(5, 1, 1, 7), NONE);
        checks.dueWithoutChange("code and place of a box", p -> p.box(5, 40, 40, 7), NONE);
        PaperKinds papers = Example.papers();
        checks.due("a code of other pages alone", papers.box(5, 1, 1, 80), 3);
        checks.due("a place of another box", papers.box(5, 1, 1, 81), 4);
        checks.due("about(25)", papers.about(25), 5);
    }

    private static void boxesOfOthers() {
        checks.says("NONE: others");
        int[] others = {-1, Example.PAGES, 15, 16, LEAST, MOST};
        for (int other : others) {
            checks.dueWithoutChange("box of page " + other, p -> p.box(other, 1, 1, 1), NONE);
        }
    }

    private static void about() {
        checks.says("0 PAGES, 1 .. 5 WEIGHTS as weights() takes them, 6 LIMIT, 7 GAP, 8 HEAP");
        PaperKinds papers = new PaperKinds();
        int[] first = {0, 1, 1, 20, 16, 8, 60, 10, 30};
        for (int what = 0; what <= 8; what++) {
            checks.due("about(" + what + ") at first", papers.about(what), first[what]);
        }
        papers.page();
        papers.weights(2, 3, 4, 5, 6);
        papers.bounds(7, 8, 9);
        for (int what = 0; what <= 8; what++) {
            checks.due("about(" + what + ")", papers.about(what), what + 1);
        }
        checks.says("20 + p: BOXES of a PAGE");
        for (int page = 1; page < 16; page++) {
            Checks.pageOfMany(papers, page % 9, 10, 10, 1);
        }
        for (int page = 0; page < 16; page++) {
            checks.due("about(20 + " + page + ")", papers.about(20 + page), page % 9);
        }
    }

    private static void aboutOthers() {
        checks.says("NONE for others.");
        PaperKinds papers = new PaperKinds();
        checks.due("about(20) without pages", papers.about(20), NONE);
        papers.page();
        checks.due("about(20)", papers.about(20), 0);
        checks.due("about(21)", papers.about(21), NONE);
        for (int page = 1; page < 16; page++) {
            papers.page();
        }
        checks.due("about(35)", papers.about(35), 0);
        // The last two come back to pages if 20 is taken off or added with a wrap-around.
        int[] others = {-1, 9, 10, 19, 36, -20, -21, LEAST, LEAST + 19, LEAST + 20, MOST};
        for (int what : others) {
            checks.due("about(" + what + ")", papers.about(what), NONE);
        }
    }
}
