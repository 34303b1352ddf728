import java.util.ArrayList;
import java.util.Arrays;
import java.util.Collections;
import java.util.HashMap;
import java.util.List;
import java.util.Map;
import java.util.TreeSet;

/**
 * The document once more, as slowly and plainly as it is written: nothing is kept but what was
 * told, and every way to lay a page is weighed. PaperKinds is compared with it.
 */
final class SlowPapers {
    private record Item(int x, int y, int code, boolean always) { }

    private record Laying(int cost, int dx, int dy, List<Integer> spots) { }

    private final List<List<Item>> pages = new ArrayList<>();
    private final List<Integer> tellings = new ArrayList<>();
    private int[] weights = {1, 1, 20, 16, 8};
    private int[] bounds = {60, 10, 30};

    // By all that a laying depends on, so that nothing can be out of date.
    private static final Map<List<Object>, Laying> LAYINGS = new HashMap<>();

    /** Gives back the room that the layings of earlier runs take. */
    static void forget() {
        LAYINGS.clear();
    }

    int page() {
        if (pages.size() == 16) {
            return -1;
        }
        pages.add(new ArrayList<>());
        tellings.add(-1);
        return pages.size() - 1;
    }

    int box(int page, int x, int y, int code) {
        if (noPage(page) || x < 0 || x > 63 || y < 0 || y > 63 || code < 1 || code > 99) {
            return -1;
        }
        List<Item> boxes = pages.get(page);
        if (boxes.size() == 8 || boxes.stream().anyMatch(b -> b.code == code)) {
            return -1;
        }
        boxes.add(new Item(x, y, code, true));
        return boxes.size() - 1;
    }

    boolean tell(int page, int kind) {
        if (noPage(page) || kind < -1 || kind > 4 || pages.get(page).isEmpty()) {
            return false;
        }
        tellings.set(page, kind);
        return true;
    }

    boolean weights(int move, int far, int code, int miss, int extra) {
        int[] asked = {move, far, code, miss, extra};
        int[] most = {9, 9, 99, 99, 99};
        for (int i = 0; i < 5; i++) {
            if (asked[i] < 0 || asked[i] > most[i]) {
                return false;
            }
        }
        weights = asked;
        return true;
    }

    boolean bounds(int limit, int gap, int heap) {
        int[] asked = {limit, gap, heap};
        if (Arrays.stream(asked).anyMatch(b -> b < 0 || b > 1000)) {
            return false;
        }
        bounds = asked;
        return true;
    }

    int kind(int kind, int what) {
        if (noKind(kind)) {
            return -1;
        }
        return what == 0 ? of(kind).size() : what == 1 ? spots(kind).size() : -1;
    }

    int spot(int kind, int i, int what) {
        if (noKind(kind) || i < 0 || i >= spots(kind).size() || what < 0 || what > 3) {
            return -1;
        }
        Item spot = spots(kind).get(i);
        return new int[] {spot.code, spot.x, spot.y, spot.always ? 1 : 0}[what];
    }

    int lay(int page, int kind, int what) {
        if (noPage(page) || noKind(kind) || of(kind).isEmpty()) {
            return -1;
        }
        Laying laying = laying(pages.get(page), spots(kind));
        if (what == 0) {
            return laying.cost;
        }
        return what >= 10 && what < 10 + laying.spots.size() ? laying.spots.get(what - 10) : -1;
    }

    int moved(int page, int kind, boolean y) {
        if (noPage(page) || noKind(kind) || of(kind).isEmpty()) {
            return -10;
        }
        Laying laying = laying(pages.get(page), spots(kind));
        return y ? laying.dy : laying.dx;
    }

    int read(int page, int kind, int i) {
        if (noPage(page) || noKind(kind) || i < 0) {
            return -1;
        }
        int box = of(kind).isEmpty() ? -1 : laying(pages.get(page), spots(kind)).spots.indexOf(i);
        return box < 0 ? -1 : pages.get(page).get(box).code;
    }

    int sorted(int page) {
        if (noPage(page)) {
            return -1;
        }
        List<Integer> costs = costs(page);
        if (costs.isEmpty() || costs.get(0) > bounds[0]) {
            return 10;
        }
        if (costs.size() > 1 && costs.get(1) - costs.get(0) < bounds[1]) {
            return 11;
        }
        for (int kind = 0; ; kind++) {
            if (lay(page, kind, 0) == costs.get(0)) {
                return kind;
            }
        }
    }

    int told(int page) {
        return noPage(page) ? -1 : tellings.get(page);
    }

    int look() {
        int found = -1;
        int least = Integer.MAX_VALUE;
        for (int page = 0; page < pages.size(); page++) {
            if (tellings.get(page) == -1 && sorted(page) == 11) {
                int difference = costs(page).get(1) - costs(page).get(0);
                if (difference < least) {
                    found = page;
                    least = difference;
                }
            }
        }
        return found;
    }

    int heaps() {
        int count = 0;
        for (int page = 0; page < pages.size(); page++) {
            if (heap(page) == page) {
                count++;
            }
        }
        return count;
    }

    int heap(int page) {
        if (noPage(page) || !loose(page)) {
            return -1;
        }
        TreeSet<Integer> led = new TreeSet<>(List.of(page));
        for (boolean more = true; more; ) {
            more = false;
            for (int one : new ArrayList<>(led)) {
                for (int other = 0; other < pages.size(); other++) {
                    if (loose(other) && !led.contains(other) && near(one, other)) {
                        led.add(other);
                        more = true;
                    }
                }
            }
        }
        return led.first();
    }

    int versions(int a, int b, int what) {
        if (noKind(a) || noKind(b) || a == b || of(a).isEmpty() || of(b).isEmpty()) {
            return -1;
        }
        List<Item> lower = spots(Math.min(a, b));
        List<Item> upper = spots(Math.max(a, b));
        if (what == 0) {
            List<Item> boxes = lower.subList(0, Math.min(8, lower.size()));
            return laying(boxes, upper).cost <= bounds[2] ? 1 : 0;
        }
        return what == 1 ? apart(lower, upper) : -1;
    }

    int touch(int page, int kind) {
        if (noPage(page) || kind < -1 || kind > 4 || pages.get(page).isEmpty()) {
            return -1;
        }
        int before = tellings.get(page);
        List<Integer> sortedBefore = allSorted();
        tellings.set(page, kind);
        List<Integer> sortedAfter = allSorted();
        tellings.set(page, before);
        int count = 0;
        for (int i = 0; i < pages.size(); i++) {
            count += sortedBefore.get(i).equals(sortedAfter.get(i)) ? 0 : 1;
        }
        return count;
    }

    int about(int what) {
        if (what == 0) {
            return pages.size();
        }
        if (what >= 1 && what <= 5) {
            return weights[what - 1];
        }
        if (what >= 6 && what <= 8) {
            return bounds[what - 6];
        }
        return what >= 20 && what < 20 + pages.size() ? pages.get(what - 20).size() : -1;
    }

    private boolean noPage(int page) {
        return page < 0 || page >= pages.size();
    }

    private static boolean noKind(int kind) {
        return kind < 0 || kind > 4;
    }

    private List<List<Item>> of(int kind) {
        List<List<Item>> told = new ArrayList<>();
        for (int page = 0; page < pages.size(); page++) {
            if (tellings.get(page) == kind) {
                told.add(pages.get(page));
            }
        }
        return told;
    }

    private List<Item> spots(int kind) {
        List<List<Item>> told = of(kind);
        List<Item> spots = new ArrayList<>();
        for (int code = 1; code <= 99; code++) {
            List<Integer> xs = new ArrayList<>();
            List<Integer> ys = new ArrayList<>();
            for (List<Item> boxes : told) {
                for (Item box : boxes) {
                    if (box.code == code) {
                        xs.add(box.x);
                        ys.add(box.y);
                    }
                }
            }
            int count = xs.size();
            if (count > 0 && count >= told.size() / 2.0) {
                Collections.sort(xs);
                Collections.sort(ys);
                int middle = count % 2 == 0 ? count / 2 - 1 : count / 2;
                spots.add(new Item(xs.get(middle), ys.get(middle), code, count == told.size()));
            }
        }
        return spots;
    }

    private List<Integer> costs(int page) {
        List<Integer> costs = new ArrayList<>();
        for (int kind = 0; kind < 5; kind++) {
            if (!of(kind).isEmpty()) {
                costs.add(lay(page, kind, 0));
            }
        }
        Collections.sort(costs);
        return costs;
    }

    private List<Integer> allSorted() {
        List<Integer> answers = new ArrayList<>();
        for (int page = 0; page < pages.size(); page++) {
            answers.add(sorted(page));
        }
        return answers;
    }

    private boolean loose(int page) {
        return tellings.get(page) == -1 && sorted(page) == 10;
    }

    private boolean near(int one, int other) {
        List<Item> spots = new ArrayList<>(pages.get(Math.max(one, other)));
        spots.sort((a, b) -> a.code - b.code);
        return laying(pages.get(Math.min(one, other)), spots).cost <= bounds[2];
    }

    private static int apart(List<Item> one, List<Item> other) {
        TreeSet<Integer> alone = new TreeSet<>();
        TreeSet<Integer> moved = new TreeSet<>();
        for (Item a : one) {
            alone.add(a.code);
        }
        for (Item b : other) {
            if (!alone.remove(b.code)) {
                alone.add(b.code);
            }
            for (Item a : one) {
                if (a.code == b.code && (a.x != b.x || a.y != b.y)) {
                    moved.add(a.code);
                }
            }
        }
        return !alone.isEmpty() ? alone.first() : !moved.isEmpty() ? moved.first() : -1;
    }

    private Laying laying(List<Item> boxes, List<Item> spots) {
        List<Object> key = List.of(List.copyOf(boxes), List.copyOf(spots),
                Arrays.stream(weights).boxed().toList());
        Laying known = LAYINGS.get(key);
        if (known == null) {
            known = newLaying(boxes, spots);
            LAYINGS.put(key, known);
        }
        return known;
    }

    private Laying newLaying(List<Item> boxes, List<Item> spots) {
        Laying best = null;
        for (int dx = -3; dx <= 3; dx++) {
            for (int dy = -3; dy <= 3; dy++) {
                Laying laying = new Ways(boxes, spots, dx, dy).first();
                if (best == null || laying.cost < best.cost) {
                    best = laying;
                }
            }
        }
        return best;
    }

    /** All ways to lay boxes by one move: which spots are taken, box by box. */
    private final class Ways {
        private final List<Item> boxes;
        private final List<Item> spots;
        private final int dx;
        private final int dy;
        private final int[] least;

        Ways(List<Item> boxes, List<Item> spots, int dx, int dy) {
            this.boxes = boxes;
            this.spots = spots;
            this.dx = dx;
            this.dy = dy;
            least = new int[boxes.size() << spots.size()];
            Arrays.fill(least, -1);
        }

        Laying first() {
            List<Integer> chosen = new ArrayList<>();
            int taken = 0;
            for (int box = 0; box < boxes.size(); box++) {
                int spot = 0;
                while (spot < spots.size() && costWith(box, taken, spot) != leastFrom(box, taken)) {
                    spot++;
                }
                chosen.add(spot < spots.size() ? spot : -1);
                taken |= spot < spots.size() ? 1 << spot : 0;
            }
            int cost = leastFrom(0, 0) + weights[0] * (Math.abs(dx) + Math.abs(dy));
            return new Laying(cost, dx, dy, chosen);
        }

        private int leastFrom(int box, int taken) {
            if (box == boxes.size()) {
                return missed(taken);
            }
            int at = box << spots.size() | taken;
            if (least[at] < 0) {
                int cost = weights[4] + leastFrom(box + 1, taken);
                for (int spot = 0; spot < spots.size(); spot++) {
                    cost = Math.min(cost, costWith(box, taken, spot));
                }
                least[at] = cost;
            }
            return least[at];
        }

        private int costWith(int box, int taken, int spot) {
            if ((taken >> spot & 1) == 1) {
                return Integer.MAX_VALUE;
            }
            Item laid = boxes.get(box);
            Item on = spots.get(spot);
            int apart = Math.abs(laid.x + dx - on.x) + Math.abs(laid.y + dy - on.y);
            return weights[1] * apart + (laid.code == on.code ? 0 : weights[2])
                    + leastFrom(box + 1, taken | 1 << spot);
        }

        private int missed(int taken) {
            int cost = 0;
            for (int spot = 0; spot < spots.size(); spot++) {
                if ((taken >> spot & 1) == 0) {
                    cost += spots.get(spot).always ? weights[3] : weights[3] / 2;
                }
            }
            return cost;
        }
    }
}
