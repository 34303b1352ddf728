/**
 * A sorter of papers. The document's numbered promises say what each call answers; the names here
 * (page, box, kind, spot, laying, heap, version) are the document's terms.
 */
public final class PaperKinds {
    public static final int NONE = -1;

    private static final int UNKNOWN = 10;
    private static final int PERSON = 11;
    private static final int NO_MOVE = -10;

    private static final int MOST_PAGES = 16;
    private static final int MOST_KINDS = 5;
    private static final int MOST_BOXES = 8;
    // A spot is on half of a kind's pages at least, and a page has at most 8 boxes.
    private static final int MOST_SPOTS = 2 * MOST_BOXES;
    private static final int MOST_PLACE = 63;
    private static final int MOST_CODE = 99;
    private static final int MOST_SMALL_WEIGHT = 9;
    private static final int MOST_WEIGHT = 99;
    private static final int MOST_BOUND = 1000;

    private static final int FIRST_BOX_QUESTION = 10;
    private static final int FIRST_PAGE_QUESTION = 20;

    private static final int MOST_SHIFT = 3;
    private static final int SHIFTS = 2 * MOST_SHIFT + 1;
    private static final int MOVES = SHIFTS * SHIFTS;
    private static final int REST = MOST_SHIFT * SHIFTS + MOST_SHIFT;

    // A laying is held as one number, so that the least number is the laying that the document
    // asks for: from its highest part to its lowest its cost, its move (by dx, then dy), and the
    // spots of box 0, box 1 and so on in digits of base 17, 16 being a box that isn't laid.
    private static final int COLUMNS = MOST_SPOTS + 1;
    private static final long[] BOX_UNITS =
            {410338673L, 24137569L, 1419857L, 83521L, 4913L, 289L, 17L, 1L};
    private static final long MOVE_UNIT = 6975757441L;
    private static final long COST_UNIT = MOVE_UNIT * MOVES;
    private static final long NOT_LAID_YET = -1L;
    // Far above every sum of costs, and far enough below the end of long to be added to.
    private static final long ABOVE_ALL = 1L << 60;
    private static final int COST_ABOVE_ALL = 1000000;

    private final Sheet[] pages = new Sheet[MOST_PAGES];
    private final int[] tellings = new int[MOST_PAGES];
    private final Kind[] kinds = new Kind[MOST_KINDS];
    private final Layer layer = new Layer();
    private final Maker maker = new Maker();
    private final Ranking ranking = new Ranking();

    // What touch() works on, so that what is told stays as it is.
    private final int[] triedTellings = new int[MOST_PAGES];
    private final Kind[] triedKinds = new Kind[MOST_KINDS];
    private final Kind leftKind = new Kind();
    private final Kind joinedKind = new Kind();

    private final int[] nearCosts = new int[MOST_PAGES * MOST_PAGES];
    private final int[] heapOf = new int[MOST_PAGES];

    private int pageCount = 0;
    private int limit = 60;
    private int gap = 10;
    private int nearness = 30;

    public PaperKinds() {
        for (int page = 0; page < MOST_PAGES; page++) {
            pages[page] = new Sheet(MOST_BOXES);
            tellings[page] = NONE;
        }
        for (int kind = 0; kind < MOST_KINDS; kind++) {
            kinds[kind] = new Kind();
            triedKinds[kind] = kinds[kind];
        }
        forgetLayings();
    }

    public int page() {
        if (pageCount >= MOST_PAGES) {
            return NONE;
        }
        pageCount++;
        return pageCount - 1;
    }

    public int box(int page, int x, int y, int code) {
        if (!isPage(page) || !isIn(x, 0, MOST_PLACE) || !isIn(y, 0, MOST_PLACE)
                || !isIn(code, 1, MOST_CODE)) {
            return NONE;
        }
        Sheet sheet = pages[page];
        if (sheet.count >= MOST_BOXES || sheet.find(code) != NONE) {
            return NONE;
        }
        sheet.add(code, x, y, true);
        forgetPage(page);
        remake(tellings[page]);
        return sheet.count - 1;
    }

    public boolean tell(int page, int kind) {
        if (!isTellable(page, kind)) {
            return false;
        }
        int before = tellings[page];
        tellings[page] = kind;
        remake(before);
        remake(kind);
        return true;
    }

    public boolean weights(int move, int far, int code, int miss, int extra) {
        if (!isIn(move, 0, MOST_SMALL_WEIGHT) || !isIn(far, 0, MOST_SMALL_WEIGHT)
                || !isIn(code, 0, MOST_WEIGHT) || !isIn(miss, 0, MOST_WEIGHT)
                || !isIn(extra, 0, MOST_WEIGHT)) {
            return false;
        }
        layer.move = move;
        layer.far = far;
        layer.code = code;
        layer.miss = miss;
        layer.extra = extra;
        forgetLayings();
        return true;
    }

    public boolean bounds(int limit, int gap, int heap) {
        if (!isIn(limit, 0, MOST_BOUND) || !isIn(gap, 0, MOST_BOUND)
                || !isIn(heap, 0, MOST_BOUND)) {
            return false;
        }
        this.limit = limit;
        this.gap = gap;
        nearness = heap;
        return true;
    }

    public int kind(int kind, int what) {
        if (!isKind(kind)) {
            return NONE;
        }
        switch (what) {
            case 0:
                return kinds[kind].pageCount;
            case 1:
                return kinds[kind].spots.count;
            default:
                return NONE;
        }
    }

    public int spot(int kind, int i, int what) {
        if (!isKind(kind) || !isIn(i, 0, kinds[kind].spots.count - 1)) {
            return NONE;
        }
        Sheet spots = kinds[kind].spots;
        switch (what) {
            case 0:
                return spots.codes[i];
            case 1:
                return spots.xs[i];
            case 2:
                return spots.ys[i];
            case 3:
                return spots.always[i] ? 1 : 0;
            default:
                return NONE;
        }
    }

    public int lay(int page, int kind, int what) {
        if (!isPage(page) || !hasPages(kind)) {
            return NONE;
        }
        if (what == 0) {
            return costIn(laying(page, kinds[kind]));
        }
        if (what < FIRST_BOX_QUESTION || what - FIRST_BOX_QUESTION >= pages[page].count) {
            return NONE;
        }
        return spotIn(laying(page, kinds[kind]), what - FIRST_BOX_QUESTION);
    }

    public int moved(int page, int kind, boolean y) {
        if (!isPage(page) || !hasPages(kind)) {
            return NO_MOVE;
        }
        int move = moveIn(laying(page, kinds[kind]));
        return y ? downOf(move) : acrossOf(move);
    }

    public int read(int page, int kind, int i) {
        if (!isPage(page) || !hasPages(kind) || !isIn(i, 0, kinds[kind].spots.count - 1)) {
            return NONE;
        }
        long laying = laying(page, kinds[kind]);
        Sheet sheet = pages[page];
        for (int box = 0; box < sheet.count; box++) {
            if (spotIn(laying, box) == i) {
                return sheet.codes[box];
            }
        }
        return NONE;
    }

    public int sorted(int page) {
        return isPage(page) ? rank(page, kinds) : NONE;
    }

    public int told(int page) {
        return isPage(page) ? tellings[page] : NONE;
    }

    public int look() {
        int closest = NONE;
        int leastSpread = COST_ABOVE_ALL;
        for (int page = 0; page < pageCount; page++) {
            if (tellings[page] == NONE && rank(page, kinds) == PERSON
                    && ranking.spread() < leastSpread) {
                closest = page;
                leastSpread = ranking.spread();
            }
        }
        return closest;
    }

    public int heaps() {
        findHeaps();
        int count = 0;
        for (int page = 0; page < pageCount; page++) {
            if (heapOf[page] == page) {
                count++;
            }
        }
        return count;
    }

    public int heap(int page) {
        if (!isPage(page)) {
            return NONE;
        }
        findHeaps();
        return heapOf[page];
    }

    public int versions(int a, int b, int what) {
        if (!hasPages(a) || !hasPages(b) || a == b) {
            return NONE;
        }
        Sheet lower = kinds[Math.min(a, b)].spots;
        Sheet upper = kinds[Math.max(a, b)].spots;
        switch (what) {
            case 0:
                return costIn(layer.cheapest(lower, upper)) <= nearness ? 1 : 0;
            case 1:
                return codeApart(lower, upper);
            default:
                return NONE;
        }
    }

    public int touch(int page, int kind) {
        if (!isTellable(page, kind)) {
            return NONE;
        }
        tryTelling(page, kind);
        int count = 0;
        for (int other = 0; other < pageCount; other++) {
            if (rank(other, kinds) != rank(other, triedKinds)) {
                count++;
            }
        }
        return count;
    }

    public int about(int what) {
        switch (what) {
            case 0:
                return pageCount;
            case 1:
                return layer.move;
            case 2:
                return layer.far;
            case 3:
                return layer.code;
            case 4:
                return layer.miss;
            case 5:
                return layer.extra;
            case 6:
                return limit;
            case 7:
                return gap;
            case 8:
                return nearness;
            default:
                return boxesAskedFor(what);
        }
    }

    private int boxesAskedFor(int what) {
        if (what < FIRST_PAGE_QUESTION || !isPage(what - FIRST_PAGE_QUESTION)) {
            return NONE;
        }
        return pages[what - FIRST_PAGE_QUESTION].count;
    }

    private static boolean isIn(int value, int least, int most) {
        return value >= least && value <= most;
    }

    private boolean isPage(int page) {
        return page >= 0 && page < pageCount;
    }

    private static boolean isKind(int kind) {
        return kind >= 0 && kind < MOST_KINDS;
    }

    private boolean hasPages(int kind) {
        return isKind(kind) && kinds[kind].pageCount > 0;
    }

    private boolean isTellable(int page, int kind) {
        return isPage(page) && pages[page].count > 0 && (kind == NONE || isKind(kind));
    }

    private void remake(int kind) {
        if (isKind(kind)) {
            maker.make(kinds[kind], kind, pages, tellings);
        }
    }

    private void forgetLayings() {
        for (int page = 0; page < MOST_PAGES; page++) {
            forgetPage(page);
        }
    }

    private void forgetPage(int page) {
        for (int kind = 0; kind < MOST_KINDS; kind++) {
            kinds[kind].layings[page] = NOT_LAID_YET;
        }
        for (int other = 0; other < MOST_PAGES; other++) {
            nearCosts[page * MOST_PAGES + other] = NONE;
            nearCosts[other * MOST_PAGES + page] = NONE;
        }
    }

    private long laying(int page, Kind kind) {
        if (kind.layings[page] == NOT_LAID_YET) {
            kind.layings[page] = layer.cheapest(pages[page], kind.spots);
        }
        return kind.layings[page];
    }

    private static int costIn(long laying) {
        return (int) (laying / COST_UNIT);
    }

    private static int moveIn(long laying) {
        return (int) (laying / MOVE_UNIT % MOVES);
    }

    private static int spotIn(long laying, int box) {
        int spot = (int) (laying / BOX_UNITS[box] % COLUMNS);
        return spot == MOST_SPOTS ? NONE : spot;
    }

    private static int acrossOf(int move) {
        return move / SHIFTS - MOST_SHIFT;
    }

    private static int downOf(int move) {
        return move % SHIFTS - MOST_SHIFT;
    }

    private int rank(int page, Kind[] among) {
        ranking.clear();
        for (int kind = 0; kind < MOST_KINDS; kind++) {
            if (among[kind].pageCount > 0) {
                ranking.take(kind, costIn(laying(page, among[kind])));
            }
        }
        return ranking.answer(limit, gap);
    }

    private void findHeaps() {
        for (int page = 0; page < pageCount; page++) {
            boolean loose = tellings[page] == NONE && rank(page, kinds) == UNKNOWN;
            heapOf[page] = loose ? page : NONE;
        }
        for (int lower = 0; lower < pageCount; lower++) {
            for (int upper = lower + 1; upper < pageCount; upper++) {
                // Pages that a chain has joined already need no laying.
                if (heapOf[lower] != NONE && heapOf[upper] != NONE
                        && heapOf[lower] != heapOf[upper] && nearCost(lower, upper) <= nearness) {
                    joinHeaps(heapOf[lower], heapOf[upper]);
                }
            }
        }
    }

    private void joinHeaps(int one, int other) {
        int kept = Math.min(one, other);
        int dropped = Math.max(one, other);
        for (int page = 0; page < pageCount; page++) {
            if (heapOf[page] == dropped) {
                heapOf[page] = kept;
            }
        }
    }

    // The other page's boxes are not put by rising codes: their order changes no cost.
    private int nearCost(int lower, int upper) {
        int at = lower * MOST_PAGES + upper;
        if (nearCosts[at] == NONE) {
            nearCosts[at] = costIn(layer.cheapest(pages[lower], pages[upper]));
        }
        return nearCosts[at];
    }

    private static int codeApart(Sheet one, Sheet other) {
        int leastMoved = NONE;
        for (int code = 1; code <= MOST_CODE; code++) {
            int inOne = one.find(code);
            int inOther = other.find(code);
            if ((inOne == NONE) != (inOther == NONE)) {
                return code;
            }
            if (leastMoved == NONE && inOne != NONE
                    && (one.xs[inOne] != other.xs[inOther] || one.ys[inOne] != other.ys[inOther])) {
                leastMoved = code;
            }
        }
        return leastMoved;
    }

    private void tryTelling(int page, int kind) {
        for (int other = 0; other < MOST_PAGES; other++) {
            triedTellings[other] = tellings[other];
        }
        triedTellings[page] = kind;
        for (int other = 0; other < MOST_KINDS; other++) {
            triedKinds[other] = kinds[other];
        }
        tryMaking(leftKind, tellings[page]);
        tryMaking(joinedKind, kind);
    }

    private void tryMaking(Kind made, int kind) {
        if (isKind(kind)) {
            maker.make(made, kind, pages, triedTellings);
            triedKinds[kind] = made;
        }
    }

    /** The boxes of a page, or the spots of a kind: either can be laid, or be laid upon. */
    private static final class Sheet {
        final int[] codes;
        final int[] xs;
        final int[] ys;
        final boolean[] always;
        int count = 0;

        Sheet(int most) {
            codes = new int[most];
            xs = new int[most];
            ys = new int[most];
            always = new boolean[most];
        }

        void add(int code, int x, int y, boolean alwaysThere) {
            if (count < codes.length) {
                codes[count] = code;
                xs[count] = x;
                ys[count] = y;
                always[count] = alwaysThere;
                count++;
            }
        }

        int find(int code) {
            for (int i = 0; i < count; i++) {
                if (codes[i] == code) {
                    return i;
                }
            }
            return NONE;
        }
    }

    /** A kind as it was last made, with the layings on it that have been asked for since. */
    private static final class Kind {
        final Sheet spots = new Sheet(MOST_SPOTS);
        final long[] layings = new long[MOST_PAGES];
        int pageCount = 0;

        void clear() {
            spots.count = 0;
            pageCount = 0;
            for (int page = 0; page < MOST_PAGES; page++) {
                layings[page] = NOT_LAID_YET;
            }
        }
    }

    /** Makes kinds of the pages that are told of them. */
    private static final class Maker {
        private final int[] carriers = new int[MOST_CODE + 1];
        private final int[] xs = new int[MOST_PAGES];
        private final int[] ys = new int[MOST_PAGES];

        void make(Kind made, int kind, Sheet[] pages, int[] tellings) {
            made.clear();
            countCarriers(made, kind, pages, tellings);
            for (int code = 1; code <= MOST_CODE; code++) {
                if (carriers[code] > 0 && 2 * carriers[code] >= made.pageCount) {
                    int count = gather(code, kind, pages, tellings);
                    made.spots.add(code, middle(xs, count), middle(ys, count),
                            count == made.pageCount);
                }
            }
        }

        private void countCarriers(Kind made, int kind, Sheet[] pages, int[] tellings) {
            for (int code = 0; code <= MOST_CODE; code++) {
                carriers[code] = 0;
            }
            for (int page = 0; page < MOST_PAGES; page++) {
                if (tellings[page] == kind) {
                    made.pageCount++;
                    for (int box = 0; box < pages[page].count; box++) {
                        carriers[pages[page].codes[box]]++;
                    }
                }
            }
        }

        private int gather(int code, int kind, Sheet[] pages, int[] tellings) {
            int count = 0;
            for (int page = 0; page < MOST_PAGES; page++) {
                int box = tellings[page] == kind ? pages[page].find(code) : NONE;
                if (box != NONE) {
                    putByRising(xs, count, pages[page].xs[box]);
                    putByRising(ys, count, pages[page].ys[box]);
                    count++;
                }
            }
            return count;
        }

        private static void putByRising(int[] row, int count, int value) {
            int at = count;
            while (at > 0 && row[at - 1] > value) {
                row[at] = row[at - 1];
                at--;
            }
            row[at] = value;
        }

        private static int middle(int[] row, int count) {
            return count > 0 ? row[(count - 1) / 2] : 0;
        }
    }

    /** The kinds that a page has been laid on, down to the two of least cost. */
    private static final class Ranking {
        private int best = NONE;
        private int least = COST_ABOVE_ALL;
        private int next = COST_ABOVE_ALL;

        void clear() {
            best = NONE;
            least = COST_ABOVE_ALL;
            next = COST_ABOVE_ALL;
        }

        void take(int kind, int cost) {
            if (cost < least) {
                next = least;
                least = cost;
                best = kind;
            } else if (cost < next) {
                next = cost;
            }
        }

        int spread() {
            return next - least;
        }

        int answer(int limit, int gap) {
            if (best == NONE || least > limit) {
                return UNKNOWN;
            }
            return spread() < gap ? PERSON : best;
        }
    }

    /**
     * Finds the laying. For each move the boxes are laid one after the other, each by the cheapest
     * chain of boxes that hand their spots on (the Hungarian method); the column behind the spots
     * takes every box that isn't laid.
     */
    private static final class Layer {
        int move = 1;
        int far = 1;
        int code = 20;
        int miss = 16;
        int extra = 8;

        private int boxCount = 0;
        private int spotCount = 0;
        private long allMissed = 0;
        private boolean crowded = false;

        private final int[] across = new int[MOST_BOXES * COLUMNS];
        private final int[] down = new int[MOST_BOXES * COLUMNS];
        private final long[] fixed = new long[MOST_BOXES * COLUMNS];
        private final long[] cells = new long[MOST_BOXES * COLUMNS];

        private final long[] boxPrices = new long[MOST_BOXES];
        private final long[] columnPrices = new long[COLUMNS];
        private final int[] boxOn = new int[COLUMNS];
        private final long[] slack = new long[COLUMNS];
        private final int[] cameFrom = new int[COLUMNS];
        private final boolean[] reached = new boolean[COLUMNS];

        /** Of more than 8 boxes (a kind's spots may be more) the first 8 are laid. */
        long cheapest(Sheet boxes, Sheet spots) {
            boxCount = Math.min(boxes.count, MOST_BOXES);
            spotCount = Math.min(spots.count, MOST_SPOTS);
            setUp(boxes, spots);
            // The move that is often best comes first: what it costs spares most others' work.
            long best = cheapestAt(REST, ABOVE_ALL);
            for (int order = 0; order < MOVES; order++) {
                best = cheapestAt(order, best);
            }
            return best;
        }

        private void setUp(Sheet boxes, Sheet spots) {
            allMissed = 0;
            for (int spot = 0; spot < spotCount; spot++) {
                int missed = spots.always[spot] ? miss : miss / 2;
                allMissed += missed;
                for (int box = 0; box < boxCount; box++) {
                    int at = box * COLUMNS + spot;
                    int other = boxes.codes[box] == spots.codes[spot] ? 0 : code;
                    across[at] = boxes.xs[box] - spots.xs[spot];
                    down[at] = boxes.ys[box] - spots.ys[spot];
                    fixed[at] = (other - missed) * COST_UNIT + spot * BOX_UNITS[box];
                }
            }
            for (int box = 0; box < boxCount; box++) {
                cells[box * COLUMNS + spotCount] = extra * COST_UNIT + MOST_SPOTS * BOX_UNITS[box];
            }
        }

        /** The lesser of best and the cheapest laying by one move. */
        private long cheapestAt(int order, long best) {
            int dx = acrossOf(order);
            int dy = downOf(order);
            long start = (allMissed + move * (Math.abs(dx) + Math.abs(dy))) * COST_UNIT
                    + order * MOVE_UNIT;
            fillCells(dx, dy);
            long bound = start + leastWithoutRivals();
            if (bound >= best || !crowded) {
                return Math.min(bound, best);
            }
            clearPrices();
            long total = start;
            for (int box = 0; box < boxCount; box++) {
                total += insert(box);
            }
            return Math.min(total, best);
        }

        private void fillCells(int dx, int dy) {
            long step = far * COST_UNIT;
            for (int box = 0; box < boxCount; box++) {
                int end = box * COLUMNS + spotCount;
                for (int at = box * COLUMNS; at < end; at++) {
                    cells[at] = fixed[at]
                            + step * (Math.abs(across[at] + dx) + Math.abs(down[at] + dy));
                }
            }
        }

        /** Each box where it would be cheapest alone; crowded if two would be on one spot. */
        private long leastWithoutRivals() {
            long sum = 0;
            int taken = 0;
            crowded = false;
            for (int box = 0; box < boxCount; box++) {
                int row = box * COLUMNS;
                int column = spotCount;
                for (int spot = 0; spot < spotCount; spot++) {
                    if (cells[row + spot] < cells[row + column]) {
                        column = spot;
                    }
                }
                sum += cells[row + column];
                if (column < spotCount) {
                    crowded = crowded || (taken >> column & 1) == 1;
                    taken = taken | 1 << column;
                }
            }
            return sum;
        }

        private void clearPrices() {
            for (int box = 0; box < boxCount; box++) {
                boxPrices[box] = 0;
            }
            for (int column = 0; column <= spotCount; column++) {
                columnPrices[column] = 0;
                boxOn[column] = NONE;
            }
        }

        /** What one more box adds to the cost of those before it. */
        private long insert(int box) {
            for (int column = 0; column <= spotCount; column++) {
                slack[column] = ABOVE_ALL;
                reached[column] = false;
            }
            long added = 0;
            int from = NONE;
            int mover = box;
            for (int step = 0; step <= spotCount; step++) {
                int nearest = reach(mover, from);
                added += slack[nearest];
                raisePrices(box, slack[nearest]);
                if (boxOn[nearest] == NONE) {
                    handOn(box, nearest);
                    return added;
                }
                reached[nearest] = true;
                from = nearest;
                mover = boxOn[nearest];
            }
            return added;
        }

        /** The nearest column, after a look from where a box stands now. */
        private int reach(int mover, int from) {
            int nearest = spotCount;
            for (int column = spotCount; column >= 0; column--) {
                if (!reached[column]) {
                    long rest = cells[mover * COLUMNS + column]
                            - boxPrices[mover] - columnPrices[column];
                    if (rest < slack[column]) {
                        slack[column] = rest;
                        cameFrom[column] = from;
                    }
                    if (slack[column] < slack[nearest]) {
                        nearest = column;
                    }
                }
            }
            return nearest;
        }

        private void raisePrices(int box, long rise) {
            boxPrices[box] += rise;
            for (int column = 0; column <= spotCount; column++) {
                if (reached[column] && boxOn[column] != NONE) {
                    boxPrices[boxOn[column]] += rise;
                    columnPrices[column] -= rise;
                } else {
                    slack[column] -= rise;
                }
            }
        }

        private void handOn(int box, int last) {
            int column = last;
            for (int step = 0; step <= spotCount && column != NONE; step++) {
                int before = cameFrom[column];
                // The column behind the spots stays free, for any number of boxes go there.
                if (column < spotCount) {
                    boxOn[column] = before == NONE ? box : boxOn[before];
                }
                column = before;
            }
        }
    }
}
