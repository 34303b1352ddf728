/** The edges that promises 9 to 11 name, and the term LAYING. */
public final class LayingEdgesTest {
    private static final Checks checks = new Checks("LayingEdgesTest");
    private static final int NONE = PaperKinds.NONE;
    private static final int LEAST = Integer.MIN_VALUE;
    private static final int MOST = Integer.MAX_VALUE;

    public static void main(String[] args) {
        allMoves();
        beyondTheMoves();
        noTwoOnOne();
        costOfMoves();
        beyondTheEdges();
        codesThatDiffer();
        misses();
        halfMisses();
        extras();
        likeDx();
        likeDy();
        dxBeforeDy();
        dyBeforeSpots();
        firstBoxOnLeastSpot();
        notLaidIsBehindAll();
        thenTheNextBox();
        firstBoxBeforeTheOthers();
        withoutBoxes();
        withoutSpots();
        fullPageOnFullKind();
        layOthers();
        movedOthers();
        readOnSpots();
        readOthers();
        checks.end();
    }

    /** The cost, the move, and the spots of the boxes of the laying of page 1 on kind 0. */
    private static void due(String of, PaperKinds papers, int cost, int dx, int dy, int... spots) {
        checks.due(of + ": lay(1, 0, 0)", papers.lay(1, 0, 0), cost);
        checks.due(of + ": moved(1, 0, false)", papers.moved(1, 0, false), dx);
        checks.due(of + ": moved(1, 0, true)", papers.moved(1, 0, true), dy);
        for (int box = 0; box < spots.length; box++) {
            checks.due(of + ": lay(1, 0, 1" + box + ")", papers.lay(1, 0, 10 + box), spots[box]);
        }
    }

    /** Page 0 makes kind 0 of three spots; page 1 has the same boxes, each (dx, dy) off. */
    private static PaperKinds shifted(int dx, int dy) {
        PaperKinds papers = new PaperKinds();
        Checks.pageOfKind(papers, 0, 10, 20, 1, 30, 10, 2, 40, 40, 3);
        Checks.pageOf(papers, 10 - dx, 20 - dy, 1, 30 - dx, 10 - dy, 2, 40 - dx, 40 - dy, 3);
        return papers;
    }

    private static void allMoves() {
        checks.says("a MOVE (dx, dy: -3 .. 3)");
        for (int dx = -3; dx <= 3; dx++) {
            for (int dy = -3; dy <= 3; dy++) {
                int cost = Math.abs(dx) + Math.abs(dy);
                due(dx + ", " + dy, shifted(dx, dy), cost, dx, dy, 0, 1, 2);
            }
        }
    }

    private static void beyondTheMoves() {
        checks.says("dx, dy: -3 .. 3");
        for (int dx = -5; dx <= 5; dx++) {
            for (int dy = -5; dy <= 5; dy++) {
                int nearX = Math.max(-3, Math.min(3, dx));
                int nearY = Math.max(-3, Math.min(3, dy));
                // Each of the three boxes stays off by what the move can't reach.
                int cost = Math.abs(nearX) + Math.abs(nearY)
                        + 3 * (Math.abs(dx - nearX) + Math.abs(dy - nearY));
                due(dx + ", " + dy, shifted(dx, dy), cost, nearX, nearY, 0, 1, 2);
            }
        }
    }

    private static void noTwoOnOne() {
        checks.says("some BOXES each laid on a SPOT, no two on one");
        PaperKinds papers = new PaperKinds();
        Checks.pageOfKind(papers, 0, 10, 10, 5);
        Checks.pageOf(papers, 10, 10, 6, 10, 10, 5, 10, 10, 7);
        due("three boxes, one spot", papers, 16, 0, 0, NONE, 0, NONE);
        papers.weights(1, 1, 0, 99, 99);
        due("three like ones", papers, 198, 0, 0, 0, NONE, NONE);
        crowdsOnSpots();
        handedOn();
        pushedOut();
    }

    /** Kinds of 1 to 16 like spots, and a page of 8 like boxes on each of them in turn. */
    private static void crowdsOnSpots() {
        int[] spots = {16, 1, 3, 8, 7};
        PaperKinds papers = new PaperKinds();
        int page = Checks.pageOfMany(papers, 8, 10, 10, 71);
        for (int kind = 0; kind < 5; kind++) {
            papers.tell(Checks.pageOfMany(papers, Math.min(8, spots[kind]), 10, 10, 1), kind);
            if (spots[kind] == 16) {
                papers.tell(Checks.pageOfMany(papers, 8, 10, 10, 9), kind);
            }
        }
        for (int turn = 0; turn < 10; turn++) {
            int kind = turn < 5 ? turn : 9 - turn;
            int laid = Math.min(8, spots[kind]);
            papers.weights(1, 1, 10, 16, 8 + turn);
            int missed = spots[kind] == 16 ? 8 * 8 : 0;
            checks.due("the cost on " + spots[kind], papers.lay(page, kind, 0),
                    10 * laid + (8 + turn) * (8 - laid) + missed);
            for (int box = 0; box < 8; box++) {
                checks.due("box " + box + " on " + spots[kind], papers.lay(page, kind, 10 + box),
                        box < laid ? box : NONE);
            }
        }
    }

    /** Spots in a column, 8 apart, and boxes between them, so far below them; the last at y. */
    private static PaperKinds column(int spots, int below, int y) {
        PaperKinds papers = new PaperKinds();
        papers.page();
        papers.page();
        for (int spot = 0; spot < spots; spot++) {
            papers.box(0, 30, 8 * spot, 1 + spot);
        }
        papers.tell(0, 0);
        for (int box = 0; box < 7; box++) {
            papers.box(1, 30, 8 * box + below, 21 + box);
        }
        papers.box(1, 30, y, 28);
        papers.weights(9, 1, 0, 99, 50);
        return papers;
    }

    private static void handedOn() {
        // The last box is nearest to a spot that is taken, and each hands its spot on.
        due("all one down", column(8, 3, 0), 7 * 5, 0, 0, 1, 2, 3, 4, 5, 6, 7, 0);
        due("all one up", column(8, 5, 56), 7 * 5, 0, 0, 0, 1, 2, 3, 4, 5, 6, 7);
        due("one of them out", column(7, 4, 0), 6 * 4 + 50, 0, 0, 1, 2, 3, 4, 5, 6, NONE, 0);
        PaperKinds rush = new PaperKinds();
        Checks.pageOfKind(rush, 0, 10, 10, 1, 12, 10, 2, 15, 10, 3, 19, 10, 4, 10, 15, 5);
        Checks.pageOf(rush, 10, 10, 11, 11, 10, 12, 10, 10, 13, 13, 10, 14, 9, 10, 15);
        rush.weights(9, 1, 0, 99, 99);
        // Without the spot off the row the spots are 12 further on than the boxes, in all.
        due("a rush to the first", rush, 12 + 6, 0, 0, 0, 1, 2, 3, 4);
    }

    /** Each box is nearer than those before it, and takes their spot. */
    private static void pushedOut() {
        PaperKinds papers = new PaperKinds();
        Checks.pageOfKind(papers, 0, 10, 10, 1);
        papers.page();
        papers.weights(9, 1, 0, 99, 20);
        for (int box = 0; box < 8; box++) {
            papers.box(1, 10, 24 - 2 * box, 11 + box);
            due("from one spot", papers, 14 - 2 * box + 20 * box, 0, 0);
            checks.due("box " + box, papers.lay(1, 0, 10 + box), 0);
            checks.due("box " + (box - 1), papers.lay(1, 0, 9 + box), NONE);
        }
        PaperKinds two = new PaperKinds();
        Checks.pageOfKind(two, 0, 10, 10, 1, 10, 20, 2);
        Checks.pageOf(two, 10, 15, 11, 10, 16, 12, 10, 13, 13, 10, 18, 14, 10, 12, 15, 10, 11, 16);
        two.weights(9, 1, 0, 99, 20);
        due("from two spots", two, 2 + 1 + 4 * 20, 0, 0, NONE, NONE, NONE, 1, NONE, 0);
        two.box(1, 10, 12, 17);
        two.box(1, 10, 10, 18);
        due("from two spots again", two, 2 + 0 + 6 * 20, 0, 0, NONE, NONE, NONE, 1, NONE, NONE,
                NONE, 0);
    }

    private static void costOfMoves() {
        checks.says("MOVE times the sum of dx and dy without signs");
        int[][] moves = {{-3, 3}, {3, -3}, {-3, -3}, {3, 3}};
        for (int[] move : moves) {
            PaperKinds papers = shifted(move[0], move[1]);
            papers.weights(2, 9, 99, 99, 99);
            due("MOVE 2", papers, 12, move[0], move[1], 0, 1, 2);
        }
    }

    private static void beyondTheEdges() {
        checks.says("what x + dx and the SPOT's x, y + dy and its y differ by (together)");
        PaperKinds right = new PaperKinds();
        Checks.pageOfKind(right, 0, 63, 10, 1, 20, 20, 2, 30, 30, 3);
        Checks.pageOf(right, 63, 10, 1, 17, 20, 2, 27, 30, 3);
        right.weights(0, 1, 20, 16, 8);
        // Moved by 3, the first box is at 66, beyond the last place.
        due("x beyond 63", right, 3, 3, 0, 0, 1, 2);
        PaperKinds up = new PaperKinds();
        Checks.pageOfKind(up, 0, 10, 0, 1, 20, 20, 2, 30, 30, 3);
        Checks.pageOf(up, 10, 0, 1, 20, 23, 2, 30, 33, 3);
        up.weights(0, 1, 20, 16, 8);
        due("y below 0", up, 3, 0, -3, 0, 1, 2);
        PaperKinds both = new PaperKinds();
        Checks.pageOfKind(both, 0, 0, 63, 1);
        Checks.pageOf(both, 4, 58, 1);
        both.weights(9, 1, 99, 99, 99);
        due("x and y together", both, 9, 0, 0, 0);
        PaperKinds corners = new PaperKinds();
        Checks.pageOfKind(corners, 0, 0, 63, 1);
        Checks.pageOf(corners, 63, 0, 1);
        corners.weights(9, 1, 99, 99, 99);
        due("from corner to corner", corners, 126, 0, 0, 0);
    }

    private static void codesThatDiffer() {
        checks.says("CODE if the CODES differ");
        PaperKinds papers = new PaperKinds();
        Checks.pageOfKind(papers, 0, 10, 10, 5, 20, 20, 6);
        Checks.pageOf(papers, 10, 10, 4, 20, 20, 6);
        due("one of two", papers, 20, 0, 0, 0, 1);
        papers.weights(1, 1, 0, 16, 8);
        due("CODE 0", papers, 0, 0, 0, 0, 1);
        papers.weights(1, 1, 23, 16, 8);
        due("CODE below MISS and EXTRA", papers, 23, 0, 0, 0, 1);
        papers.weights(1, 1, 25, 16, 8);
        due("CODE above MISS and EXTRA", papers, 24, 0, 0, NONE, 1);
    }

    private static void misses() {
        checks.says("MISS of each SPOT on which none is laid that is ALWAYS there");
        for (int spots = 1; spots <= 8; spots++) {
            PaperKinds papers = new PaperKinds();
            papers.tell(Checks.pageOfMany(papers, spots, 10, 10, 1), 0);
            papers.page();
            due(spots + " spots", papers, 16 * spots, 0, 0, NONE);
            papers.box(1, 10, 10, 1);
            due(spots + " spots and a box", papers, 16 * (spots - 1), 0, 0, 0, NONE);
        }
    }

    private static void halfMisses() {
        checks.says("half of it (cut) of one that isn't");
        PaperKinds papers = new PaperKinds();
        Checks.pageOfKind(papers, 0, 10, 10, 5, 20, 20, 6);
        papers.page();
        Checks.pageOfKind(papers, 0, 10, 10, 5, 30, 30, 7);
        for (int miss = 0; miss <= 99; miss++) {
            papers.weights(1, 1, 20, miss, 8);
            // Each half is cut by itself.
            checks.due("MISS " + miss, papers.lay(1, 0, 0), miss + miss / 2 + miss / 2);
        }
        papers.weights(1, 1, 20, 15, 8);
        papers.box(1, 20, 20, 6);
        due("one that is laid on", papers, 15 + 7, 0, 0, 1);
    }

    private static void extras() {
        checks.says("EXTRA of each BOX that isn't laid");
        for (int boxes = 1; boxes <= 8; boxes++) {
            PaperKinds papers = new PaperKinds();
            Checks.pageOfKind(papers, 0, 10, 10, 50);
            Checks.pageOfMany(papers, boxes - 1, 63, 63, 1);
            papers.box(1, 10, 10, 50);
            due(boxes + " boxes", papers, 8 * (boxes - 1), 0, 0);
            checks.due("the last box", papers.lay(1, 0, 9 + boxes), 0);
            checks.due("the box before", papers.lay(1, 0, 8 + boxes), NONE);
        }
    }

    private static PaperKinds oneBoxAt(int x, int y) {
        PaperKinds papers = new PaperKinds();
        Checks.pageOfKind(papers, 0, 10, 10, 5);
        Checks.pageOf(papers, x, y, 5);
        return papers;
    }

    private static void likeDx() {
        checks.says("the least COST; of these the least dx");
        due("2 to the right", oneBoxAt(12, 10), 2, -2, 0, 0);
        due("2 to the left", oneBoxAt(8, 10), 2, 0, 0, 0);
        due("5 to the right", oneBoxAt(15, 10), 5, -3, 0, 0);
        PaperKinds free = oneBoxAt(10, 10);
        free.weights(0, 0, 20, 16, 8);
        due("MOVE 0, FAR 0", free, 0, -3, -3, 0);
    }

    private static void likeDy() {
        checks.says("then the least dy");
        due("2 below", oneBoxAt(10, 12), 2, 0, -2, 0);
        due("2 above", oneBoxAt(10, 8), 2, 0, 0, 0);
        due("right and above", oneBoxAt(11, 9), 2, -1, 0, 0);
        due("left and below", oneBoxAt(9, 11), 2, 0, -1, 0);
    }

    /** Kind 0 of two spots, page 1 of a box at (20, 20); a place that isn't its own costs 9. */
    private static PaperKinds betweenSpots(int x0, int y0, int x1, int y1) {
        PaperKinds papers = new PaperKinds();
        Checks.pageOfKind(papers, 0, x0, y0, 1, x1, y1, 2);
        Checks.pageOf(papers, 20, 20, 3);
        papers.weights(1, 9, 0, 16, 99);
        return papers;
    }

    private static void dxBeforeDy() {
        checks.says("the least dx, then the least dy");
        // (-1, 2) leads to spot 1, (0, -3) to spot 0.
        due("a greater dy, a higher spot", betweenSpots(20, 17, 19, 22), 19, -1, 2, 1);
        due("a greater dy, a lower spot", betweenSpots(19, 22, 20, 17), 19, -1, 2, 0);
        due("to the right or up", betweenSpots(23, 20, 20, 17), 19, 0, -3, 1);
    }

    private static void dyBeforeSpots() {
        checks.says("then the least dy, then BOX 0 on the least SPOT");
        due("up to the higher spot", betweenSpots(20, 21, 20, 19), 17, 0, -1, 1);
        due("up to the lower spot", betweenSpots(20, 19, 20, 21), 17, 0, -1, 0);
    }

    private static void firstBoxOnLeastSpot() {
        checks.says("then BOX 0 on the least SPOT");
        due("two like spots", betweenSpots(20, 20, 20, 20), 16, 0, 0, 0);
        PaperKinds papers = betweenSpots(20, 20, 20, 20);
        papers.box(1, 20, 20, 4);
        due("two like boxes", papers, 0, 0, 0, 0, 1);
    }

    private static void notLaidIsBehindAll() {
        checks.says("one that isn't laid counts as behind all");
        PaperKinds papers = oneBoxAt(10, 10);
        papers.weights(1, 1, 20, 0, 0);
        due("laid or not for nothing", papers, 0, 0, 0, 0);
        PaperKinds other = new PaperKinds();
        Checks.pageOfKind(other, 0, 10, 10, 5);
        Checks.pageOf(other, 10, 10, 6, 10, 10, 7);
        other.weights(1, 1, 24, 16, 8);
        due("CODE is MISS and EXTRA", other, 32, 0, 0, 0, NONE);
        // Of 16 spots only the last is near; laid there or not the box costs as much.
        PaperKinds last = new PaperKinds();
        last.tell(Checks.pageOfMany(last, 8, 63, 63, 1), 0);
        Checks.pageOf(last, 0, 0, 99);
        int page = Checks.pageOfMany(last, 7, 63, 63, 9);
        last.box(page, 0, 0, 16);
        last.tell(page, 0);
        last.weights(1, 9, 16, 16, 8);
        due("on the last spot of 16", last, 16 * 8 + 8, 0, 0, 15);
        // A least dx comes first, even where the box isn't laid then.
        PaperKinds moved = oneBoxAt(9, 10);
        moved.weights(0, 9, 20, 0, 0);
        due("not laid by a lesser dx", moved, 0, -3, -3, NONE);
    }

    private static void thenTheNextBox() {
        checks.says("then BOX 1, and so on");
        PaperKinds papers = new PaperKinds();
        papers.tell(Checks.pageOfMany(papers, 8, 10, 10, 11), 0);
        Checks.pageOfMany(papers, 8, 10, 10, 31);
        due("8 like boxes on 8 like spots", papers, 160, 0, 0, 0, 1, 2, 3, 4, 5, 6, 7);
        PaperKinds pairs = new PaperKinds();
        Checks.pageOfKind(pairs, 0, 10, 10, 1, 10, 10, 2, 30, 30, 3, 30, 30, 4);
        Checks.pageOf(pairs, 30, 30, 11, 10, 10, 12, 30, 30, 13, 10, 10, 14);
        due("pairs of like spots", pairs, 80, 0, 0, 2, 0, 3, 1);
        PaperKinds few = new PaperKinds();
        few.tell(Checks.pageOfMany(few, 7, 10, 10, 11), 0);
        Checks.pageOfMany(few, 8, 10, 10, 31);
        due("8 like boxes on 7 like spots", few, 148, 0, 0, 0, 1, 2, 3, 4, 5, 6, NONE);
    }

    private static void firstBoxBeforeTheOthers() {
        checks.says("BOX 0 on the least SPOT .., then BOX 1");
        PaperKinds papers = new PaperKinds();
        Checks.pageOfKind(papers, 0, 20, 20, 1, 20, 30, 2, 20, 10, 3);
        // Box 0 is as near to spots 0 and 1, box 1 as near to spots 0 and 2.
        Checks.pageOf(papers, 20, 25, 11, 20, 15, 12);
        papers.weights(9, 1, 0, 16, 99);
        due("box 0 takes it", papers, 26, 0, 0, 0, 2);
        PaperKinds turned = new PaperKinds();
        Checks.pageOfKind(turned, 0, 20, 20, 1, 20, 30, 2, 20, 10, 3);
        Checks.pageOf(turned, 20, 15, 11, 20, 25, 12);
        turned.weights(9, 1, 0, 16, 99);
        due("whichever is box 0", turned, 26, 0, 0, 0, 1);
    }

    private static void withoutBoxes() {
        checks.says("THE LAYING of a PAGE [without BOXES] on a KIND");
        PaperKinds papers = new PaperKinds();
        Checks.pageOfKind(papers, 0, 10, 10, 5, 20, 20, 6);
        papers.page();
        due("no boxes", papers, 32, 0, 0, NONE);
        papers.weights(0, 1, 20, 16, 8);
        due("no boxes, MOVE 0", papers, 32, -3, -3, NONE);
        checks.due("read(1, 0, 0)", papers.read(1, 0, 0), NONE);
    }

    private static void withoutSpots() {
        checks.says("THE LAYING of a PAGE on a KIND [without SPOTS]");
        PaperKinds papers = new PaperKinds();
        Checks.pageOfKind(papers, 0, 10, 10, 5);
        Checks.pageOfKind(papers, 0, 10, 10, 6, 20, 20, 7);
        Checks.pageOfKind(papers, 0, 10, 10, 8);
        checks.due("kind(0, 1)", papers.kind(0, 1), 0);
        due("no spots", papers, 16, 0, 0, NONE, NONE);
        checks.due("read(1, 0, 0)", papers.read(1, 0, 0), NONE);
        checks.due("read(1, 0, -1)", papers.read(1, 0, -1), NONE);
    }

    private static void fullPageOnFullKind() {
        checks.says("up to 8 BOXES .. on half of them at least");
        PaperKinds papers = new PaperKinds();
        papers.tell(Checks.pageOfMany(papers, 8, 63, 63, 1), 0);
        Checks.pageOfMany(papers, 8, 0, 0, 21);
        papers.tell(Checks.pageOfMany(papers, 8, 63, 63, 9), 0);
        papers.weights(9, 9, 99, 99, 99);
        due("the dearest of 16 spots", papers, 16 * 49 + 8 * 99, 0, 0, NONE, NONE, NONE, NONE,
                NONE, NONE, NONE, NONE);
        papers.weights(9, 0, 0, 99, 99);
        due("all laid", papers, 8 * 49, 0, 0, 0, 1, 2, 3, 4, 5, 6, 7);
        papers.weights(0, 1, 0, 99, 99);
        due("all laid, and far", papers, 8 * 49 + 8 * 120, 3, 3, 0, 1, 2, 3, 4, 5, 6, 7);
        papers.tell(2, NONE);
        papers.weights(9, 9, 99, 99, 99);
        due("the dearest of 8 spots", papers, 8 * 99 + 8 * 99, 0, 0, NONE, NONE, NONE, NONE,
                NONE, NONE, NONE, NONE);
    }

    private static void layOthers() {
        checks.says("0 COST, 10 + i: the SPOT of BOX i (NONE). NONE for others, and on a KIND"
                + " without PAGES.");
        PaperKinds papers = Example.papers();
        checks.due("lay(1, 1, 0)", papers.lay(1, 1, 0), 8);
        checks.due("lay(1, 1, 10)", papers.lay(1, 1, 10), 0);
        checks.due("lay(1, 1, 11)", papers.lay(1, 1, 11), 1);
        checks.due("lay(5, 0, 12) of one that isn't laid", papers.lay(5, 0, 12), NONE);
        int[] whats = {-1, 1, 9, 12, 13, 17, 18, 20, LEAST, LEAST + 9, LEAST + 10, LEAST + 11,
            MOST};
        for (int what : whats) {
            checks.due("lay(1, 1, " + what + ")", papers.lay(1, 1, what), NONE);
        }
        int[] others = {-1, 6, 15, 16, LEAST, MOST};
        for (int other : others) {
            checks.due("lay(" + other + ", 1, 0)", papers.lay(other, 1, 0), NONE);
            checks.due("lay(" + other + ", 1, 10)", papers.lay(other, 1, 10), NONE);
            checks.due("lay(1, " + other + ", 0)", papers.lay(1, other, 0), NONE);
        }
        checks.due("lay(1, 5, 0)", papers.lay(1, 5, 0), NONE);
        for (int kind = 2; kind < 5; kind++) {
            checks.due("lay(1, " + kind + ", 0)", papers.lay(1, kind, 0), NONE);
            checks.due("lay(1, " + kind + ", 10)", papers.lay(1, kind, 10), NONE);
        }
    }

    private static void movedOthers() {
        checks.says("THE LAYING's MOVE: dx (y false), dy. -10 for others.");
        PaperKinds papers = Example.papers();
        checks.due("moved(0, 1, false)", papers.moved(0, 1, false), 0);
        checks.due("moved(0, 1, true)", papers.moved(0, 1, true), 3);
        int[] pages = {-1, 6, 15, 16, LEAST, MOST};
        int[] kinds = {-1, 2, 3, 4, 5, LEAST, MOST};
        for (int turn = 0; turn < 2; turn++) {
            boolean y = turn == 1;
            for (int page : pages) {
                checks.due("moved(" + page + ", 0, y)", papers.moved(page, 0, y), -10);
            }
            for (int kind : kinds) {
                checks.due("moved(0, " + kind + ", y)", papers.moved(0, kind, y), -10);
            }
        }
    }

    private static void readOnSpots() {
        checks.says("The CODE of the BOX that lies on SPOT i of a KIND by THE LAYING.");
        PaperKinds papers = new PaperKinds();
        Checks.pageOfKind(papers, 0, 10, 10, 5, 20, 20, 6, 30, 30, 7);
        Checks.pageOf(papers, 30, 30, 8, 10, 10, 5, 63, 0, 6);
        checks.due("read(1, 0, 0) of its own code", papers.read(1, 0, 0), 5);
        checks.due("read(1, 0, 2) of another code", papers.read(1, 0, 2), 8);
        checks.says("NONE if none does");
        checks.due("read(1, 0, 1) of a code that lies elsewhere", papers.read(1, 0, 1), NONE);
    }

    private static void readOthers() {
        checks.says("NONE .. for others.");
        PaperKinds papers = new PaperKinds();
        for (int page = 0; page < 2; page++) {
            papers.tell(Checks.pageOfMany(papers, 8, 10, 10, 1 + 8 * page), 0);
        }
        // The last box isn't laid, and no number for that is a spot's.
        Checks.pageOf(papers, 10, 10, 16, 63, 63, 50);
        checks.due("read(2, 0, 15)", papers.read(2, 0, 15), 16);
        int[] spots = {-1, 16, 17, LEAST, MOST};
        for (int spot : spots) {
            checks.due("read(2, 0, " + spot + ")", papers.read(2, 0, spot), NONE);
        }
        int[] others = {-1, 5, 15, 16, LEAST, MOST};
        for (int other : others) {
            checks.due("read(" + other + ", 0, 0)", papers.read(other, 0, 0), NONE);
            checks.due("read(2, " + other + ", 0)", papers.read(2, other, 0), NONE);
        }
        checks.due("read(3, 0, 0)", papers.read(3, 0, 0), NONE);
        checks.due("read(2, 1, 0) on a kind without pages", papers.read(2, 1, 0), NONE);
    }
}
