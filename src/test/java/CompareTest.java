import java.util.Random;

/** All promises: long runs of calls, drawn from fixed seeds, each answered by SlowPapers too. */
public final class CompareTest {
    private static final int RUNS = Integer.getInteger("runs", 120);
    private static final int CALLS = 512;
    private static final Checks checks = new Checks("CompareTest");

    private final Random random;
    private final PaperKinds papers = new PaperKinds();
    private final SlowPapers slow = new SlowPapers();
    private final int seed;
    private final int codes;
    private final int places;
    private final int boxes;
    private final int costs;

    private CompareTest(int seed) {
        this.seed = seed;
        random = new Random(seed);
        // Few codes, near places and small weights give many like costs.
        codes = pick(3, 6, 10, 20, 99);
        places = pick(1, 4, 8, 20, 64);
        boxes = pick(2, 4, 6, 8);
        costs = pick(2, 4, 10, 100);
    }

    public static void main(String[] args) {
        for (int seed = 0; seed < RUNS && checks.wrong() == 0; seed++) {
            new CompareTest(seed).run();
            SlowPapers.forget();
        }
        for (int seed = 0; seed < 6 && checks.wrong() == 0; seed++) {
            new CompareTest(seed).fullKinds();
        }
        checks.end();
    }

    private int pick(int... values) {
        return values[random.nextInt(values.length)];
    }

    private int upTo(int most) {
        return random.nextInt(most + 1);
    }

    /** A number of 0 .. most, now and then one beside it or far off. */
    private int about(int most) {
        int way = random.nextInt(40);
        return switch (way) {
            case 0 -> -1;
            case 1 -> most + 1;
            case 2 -> pick(-2, 5, 16, 17, 64, 100, 1001, Integer.MIN_VALUE, Integer.MAX_VALUE);
            default -> upTo(most);
        };
    }

    private int aPage() {
        return about(Math.max(0, slow.about(0) - 1));
    }

    private void due(String call, long got, long want) {
        checks.due("seed " + seed + ": " + call, got, want);
    }

    private void run() {
        for (int call = 0; call < CALLS; call++) {
            if (call < 100 ? random.nextInt(4) > 0 : random.nextInt(5) == 0) {
                change();
            } else {
                ask();
            }
        }
    }

    private void change() {
        int way = random.nextInt(20);
        if (way < 3) {
            due("page", papers.page(), slow.page());
        } else if (way < 12) {
            int page = aPage();
            if (slow.about(20 + page) < boxes || random.nextInt(30) == 0) {
                int x = about(places - 1);
                int y = about(places - 1);
                int code = random.nextInt(30) == 0 ? about(99) : 1 + random.nextInt(codes);
                due("box", papers.box(page, x, y, code), slow.box(page, x, y, code));
            }
        } else if (way < 17) {
            int page = aPage();
            int kind = random.nextInt(5) == 0 ? -1 : about(4);
            due("tell", papers.tell(page, kind) ? 1 : 0, slow.tell(page, kind) ? 1 : 0);
        } else if (way == 17) {
            int move = about(Math.min(9, costs));
            int far = about(Math.min(9, costs));
            int code = about(Math.min(99, costs));
            int miss = about(Math.min(99, costs));
            int extra = about(Math.min(99, costs));
            due("weights", papers.weights(move, far, code, miss, extra) ? 1 : 0,
                    slow.weights(move, far, code, miss, extra) ? 1 : 0);
        } else {
            int limit = about(pick(costs, 3 * costs, 10 * costs));
            int gap = about(pick(1, costs, 2 * costs));
            int heap = about(pick(costs, 3 * costs, 10 * costs));
            due("bounds", papers.bounds(limit, gap, heap) ? 1 : 0,
                    slow.bounds(limit, gap, heap) ? 1 : 0);
        }
    }

    private void ask() {
        int page = aPage();
        int kind = about(4);
        int other = about(4);
        int i = about(8);
        switch (random.nextInt(14)) {
            case 0 -> due("kind", papers.kind(kind, other % 3), slow.kind(kind, other % 3));
            case 1 -> due("spot", papers.spot(kind, i, other), slow.spot(kind, i, other));
            case 2 -> due("lay cost", papers.lay(page, kind, 0), slow.lay(page, kind, 0));
            case 3 -> due("lay", papers.lay(page, kind, 9 + i), slow.lay(page, kind, 9 + i));
            case 4 -> due("moved", papers.moved(page, kind, true), slow.moved(page, kind, true));
            case 5 -> due("moved", papers.moved(page, kind, false), slow.moved(page, kind, false));
            case 6 -> due("read", papers.read(page, kind, i), slow.read(page, kind, i));
            case 7 -> due("sorted", papers.sorted(page), slow.sorted(page));
            case 8 -> due("told", papers.told(page), slow.told(page));
            case 9 -> due("look", papers.look(), slow.look());
            case 10 -> due("heaps", papers.heaps(), slow.heaps());
            case 11 -> due("heap", papers.heap(page), slow.heap(page));
            case 12 -> askKinds(page, kind, other);
            default -> due("about", papers.about(i + kind * 5), slow.about(i + kind * 5));
        }
    }

    private void askKinds(int page, int kind, int other) {
        int what = about(1);
        due("versions", papers.versions(kind, other, what), slow.versions(kind, other, what));
        due("touch", papers.touch(page, kind), slow.touch(page, kind));
    }

    /** Kinds of up to 16 spots, which runs of single draws hardly ever come to. */
    private void fullKinds() {
        for (int page = 0; page < 6; page++) {
            due("page", papers.page(), slow.page());
            for (int box = 0; box < 8; box++) {
                int x = upTo(places - 1);
                int y = upTo(places - 1);
                int code = 1 + page % 2 * 8 + box;
                due("box", papers.box(page, x, y, code), slow.box(page, x, y, code));
            }
            int kind = page / 2;
            due("tell", papers.tell(page, kind) ? 1 : 0, slow.tell(page, kind) ? 1 : 0);
        }
        int weight = 1 + upTo(costs);
        int code = Math.min(99, weight);
        papers.weights(1, 1, code, code, code);
        slow.weights(1, 1, code, code, code);
        for (int kind = 0; kind < 2; kind++) {
            due("kind", papers.kind(kind, 1), 16);
            due("cost", papers.lay(4, kind, 0), slow.lay(4, kind, 0));
            for (int box = 0; box < 8; box++) {
                due("lay", papers.lay(4, kind, 10 + box), slow.lay(4, kind, 10 + box));
            }
            due("dx", papers.moved(4, kind, false), slow.moved(4, kind, false));
            due("dy", papers.moved(4, kind, true), slow.moved(4, kind, true));
        }
        due("versions", papers.versions(0, 1, 0), slow.versions(0, 1, 0));
        due("apart", papers.versions(0, 1, 1), slow.versions(0, 1, 1));
    }
}
