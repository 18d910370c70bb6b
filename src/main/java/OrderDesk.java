import java.util.Arrays;

/**
 * Orders of up to fourteen things, told pair by pair. The chain, the apart, the parts, the tables of rows
 * and the list of cuts are worked out when first needed, and again only after the order has changed.
 */
public final class OrderDesk {
    public static final int NONE = -1;

    private static final int MOST_THINGS = 14;
    private static final int BITS_PER_PLACE = 4;
    private static final int PLACE_MASK = 15;
    private static final int FIRST_ROOM = 16;

    private final Order order;
    private final LongestChain longest;
    private final WidestApart widest;
    private final Parts parts;
    private final RowTable table;
    private final CutList cuts;
    private final MuRow interval;

    public OrderDesk() {
        order = new Order();
        Matching matching = new Matching(order);
        longest = new LongestChain(order);
        widest = new WidestApart(order, matching);
        parts = new Parts(order, matching);
        table = new RowTable(order);
        cuts = new CutList(order);
        interval = new MuRow();
    }

    public int begin(int n) {
        if (n < 1 || n > MOST_THINGS) {
            return NONE;
        }
        order.startWith(n);
        return n;
    }

    public int put(int a, int b) {
        if (!order.has(a) || !order.has(b) || a == b || order.under(b, a)) {
            return NONE;
        }
        return order.tie(a, b);
    }

    public int free(int v) {
        return order.has(v) ? order.untie(v) : NONE;
    }

    public boolean isBelow(int a, int b) {
        return order.has(a) && order.has(b) && order.under(a, b);
    }

    public int covers(int v) {
        return order.has(v) ? order.coversOf(v) : NONE;
    }

    public int count(int what) {
        switch (what) {
            case 0:
                return order.size;
            case 1:
                return order.pairs();
            case 2:
                return longest.length();
            case 3:
                return Integer.bitCount(widest.asSet());
            case 4:
                return table.ideals();
            case 5:
                return cuts.length();
            default:
                return NONE;
        }
    }

    public int chain(int i) {
        return longest.thingAt(i);
    }

    public int apart() {
        return widest.asSet();
    }

    public int next(int v) {
        return order.has(v) ? parts.nextOf(v) : NONE;
    }

    public long rows() {
        return table.total();
    }

    public long before(int a, int b) {
        if (!order.has(a) || !order.has(b) || a == b) {
            return NONE;
        }
        return table.rowsWithFirst(a, b);
    }

    public long places(int v, int place) {
        if (!order.has(v) || place < 0 || place >= order.size) {
            return NONE;
        }
        return table.rowsWithPlace(v, place);
    }

    public long row(long k) {
        return table.rowNumbered(k);
    }

    public long rank(long row) {
        return table.numberOf(row);
    }

    public int cut(int k) {
        return cuts.has(k) ? cuts.setOf(k) : NONE;
    }

    public int least(int set) {
        if ((set & ~order.all()) != 0) {
            return NONE;
        }
        return cuts.numberOfLeast(set);
    }

    public int joined(int k, int l, boolean meet) {
        if (!cuts.has(k) || !cuts.has(l)) {
            return NONE;
        }
        int first = cuts.setOf(k);
        int second = cuts.setOf(l);
        return cuts.numberOfLeast(meet ? first & second : first | second);
    }

    public int mu(int a, int b) {
        if (!order.has(a) || !order.has(b)) {
            return 0;
        }
        int between = order.upFrom(a) & order.downFrom(b);
        interval.clear();
        for (int v = 0; v < order.size; v++) {
            if ((between & (1 << v)) != 0) {
                interval.add(order.downFrom(v));
            }
        }
        return interval.ofFirstWithLast();
    }

    public int muOfCuts(int k, int l) {
        if (!cuts.has(k) || !cuts.has(l)) {
            return 0;
        }
        int lowest = cuts.setOf(k);
        int highest = cuts.setOf(l);
        interval.clear();
        for (int i = k; i <= l; i++) {
            int set = cuts.setOf(i);
            if (isPart(lowest, set) && isPart(set, highest)) {
                interval.add(set);
            }
        }
        return interval.ofFirstWithLast();
    }

    private static boolean isPart(int part, int set) {
        return (part & ~set) == 0;
    }

    private static final class Order {
        final int[] below = new int[MOST_THINGS];
        final int[] above = new int[MOST_THINGS];
        int size = 1;
        /** What is worked out from the order remembers this, to know whether it still holds. */
        int version = 0;

        void startWith(int things) {
            size = things;
            for (int v = 0; v < MOST_THINGS; v++) {
                below[v] = 0;
                above[v] = 0;
            }
            version++;
        }

        boolean has(int v) {
            return v >= 0 && v < size;
        }

        int all() {
            return (1 << size) - 1;
        }

        boolean under(int a, int b) {
            return (above[a] & (1 << b)) != 0;
        }

        int downFrom(int v) {
            return below[v] | (1 << v);
        }

        int upFrom(int v) {
            return above[v] | (1 << v);
        }

        int tie(int a, int b) {
            int lower = downFrom(a);
            int upper = upFrom(b);
            int came = 0;
            for (int v = 0; v < size; v++) {
                if ((lower & (1 << v)) != 0) {
                    came += Integer.bitCount(upper & ~above[v]);
                    above[v] |= upper;
                }
                if ((upper & (1 << v)) != 0) {
                    below[v] |= lower;
                }
            }
            changeBy(came);
            return came;
        }

        int untie(int v) {
            int went = Integer.bitCount(below[v]) + Integer.bitCount(above[v]);
            for (int other = 0; other < size; other++) {
                below[other] &= ~(1 << v);
                above[other] &= ~(1 << v);
            }
            below[v] = 0;
            above[v] = 0;
            changeBy(went);
            return went;
        }

        private void changeBy(int pairs) {
            if (pairs != 0) {
                version++;
            }
        }

        int pairs() {
            int sum = 0;
            for (int v = 0; v < size; v++) {
                sum += Integer.bitCount(above[v]);
            }
            return sum;
        }

        int coversOf(int v) {
            int covering = above[v];
            for (int between = 0; between < size; between++) {
                if (under(v, between)) {
                    covering &= ~above[between];
                }
            }
            return covering;
        }

        /** Whether a thing can be the next one of a row of which the things of a set stand already. */
        boolean canFollow(int set, int v) {
            return (downFrom(v) & ~set) == 1 << v;
        }
    }

    private static final class LongestChain {
        private final Order order;
        private final int[] layers = new int[MOST_THINGS];
        private final int[] things = new int[MOST_THINGS];
        private int length;
        private int seen = NONE;

        LongestChain(Order order) {
            this.order = order;
        }

        int length() {
            refresh();
            return length;
        }

        int thingAt(int i) {
            refresh();
            return i >= 0 && i < length ? things[i] : NONE;
        }

        private void refresh() {
            if (seen != order.version) {
                seen = order.version;
                peelLayers();
                climb();
            }
        }

        /** The layer in which a thing comes off tells how long the longest chain from it upwards is. */
        private void peelLayers() {
            int left = order.all();
            length = 0;
            while (left != 0 && length < MOST_THINGS) {
                int tops = topsOf(left);
                layers[length] = tops;
                length++;
                left &= ~tops;
            }
        }

        private int topsOf(int set) {
            int tops = 0;
            for (int v = 0; v < order.size; v++) {
                if ((set & (1 << v)) != 0 && (order.above[v] & set) == 0) {
                    tops |= 1 << v;
                }
            }
            return tops;
        }

        private void climb() {
            int allowed = order.all();
            for (int i = 0; i < length; i++) {
                int thing = leastOf(layers[length - 1 - i] & allowed);
                things[i] = thing;
                allowed = order.above[thing];
            }
        }

        private int leastOf(int set) {
            for (int v = 0; v < order.size; v++) {
                if ((set & (1 << v)) != 0) {
                    return v;
                }
            }
            return 0;
        }
    }

    /** Pairs things with things above them, no thing twice on a side, as many as can be. */
    private static final class Matching {
        private final Order order;
        private final int[] partners = new int[MOST_THINGS];
        private int uppers;
        private int tried;

        Matching(Order order) {
            this.order = order;
        }

        int most(int lowerSet, int upperSet) {
            uppers = upperSet;
            for (int v = 0; v < MOST_THINGS; v++) {
                partners[v] = NONE;
            }
            int made = 0;
            for (int v = 0; v < order.size; v++) {
                tried = 0;
                if ((lowerSet & (1 << v)) != 0 && pairUp(v, 0)) {
                    made++;
                }
            }
            return made;
        }

        /** By Dilworth, the greatest apart has as many things as the fewest chains that make up the set. */
        int widthOf(int set) {
            return Integer.bitCount(set) - most(set, set);
        }

        private boolean pairUp(int lower, int depth) {
            if (depth > MOST_THINGS) {
                return false;
            }
            for (int upper = 0; upper < order.size; upper++) {
                if ((order.above[lower] & uppers & ~tried & (1 << upper)) != 0) {
                    tried |= 1 << upper;
                    if (partners[upper] == NONE || pairUp(partners[upper], depth + 1)) {
                        partners[upper] = lower;
                        return true;
                    }
                }
            }
            return false;
        }
    }

    private static final class WidestApart {
        private final Order order;
        private final Matching matching;
        private int chosen;
        private int seen = NONE;

        WidestApart(Order order, Matching matching) {
            this.order = order;
            this.matching = matching;
        }

        int asSet() {
            if (seen != order.version) {
                seen = order.version;
                choose();
            }
            return chosen;
        }

        /** The least number does without the greatest things, so each one is left out if it can be. */
        private void choose() {
            int open = order.all();
            int wanted = matching.widthOf(open);
            chosen = 0;
            for (int v = order.size - 1; v >= 0; v--) {
                if ((open & (1 << v)) != 0) {
                    open &= ~(1 << v);
                    if (matching.widthOf(open) < wanted) {
                        chosen |= 1 << v;
                        wanted--;
                        open &= ~(order.below[v] | order.above[v]);
                    }
                }
            }
        }
    }

    private static final class Parts {
        private final Order order;
        private final Matching matching;
        private final int[] nexts = new int[MOST_THINGS];
        private int seen = NONE;

        Parts(Order order, Matching matching) {
            this.order = order;
            this.matching = matching;
        }

        int nextOf(int v) {
            if (seen != order.version) {
                seen = order.version;
                link();
            }
            return nexts[v];
        }

        /** The fewest chains have the most links, so a link is good if as many others remain as are due. */
        private void link() {
            int open = order.all();
            int due = matching.most(open, open);
            for (int v = 0; v < order.size; v++) {
                nexts[v] = leastGoodLink(v, open, due);
                if (nexts[v] != NONE) {
                    open &= ~(1 << nexts[v]);
                    due--;
                }
            }
        }

        private int leastGoodLink(int v, int open, int due) {
            int later = order.all() & -(1 << (v + 1));
            for (int upper = 0; upper < order.size; upper++) {
                if ((order.above[v] & open & (1 << upper)) != 0
                        && matching.most(later, open & ~(1 << upper)) == due - 1) {
                    return upper;
                }
            }
            return NONE;
        }
    }

    /** For each ideal, in how many ways a row can begin with its things, and go on after them. */
    private static final class RowTable {
        private final Order order;
        /** 0 for a set that is no ideal. */
        private long[] beginnings = new long[FIRST_ROOM];
        /** Holds for ideals only; what stands at other sets is left from earlier orders. */
        private long[] endings = new long[FIRST_ROOM];
        private int ideals;
        private int beginningsSeen = NONE;
        private int endingsSeen = NONE;

        RowTable(Order order) {
            this.order = order;
        }

        long total() {
            refreshBeginnings();
            return beginnings[order.all()];
        }

        int ideals() {
            refreshBeginnings();
            return ideals;
        }

        long rowsWithFirst(int a, int b) {
            refreshEndings();
            int all = order.all();
            long sum = 0;
            for (int set = 0; set <= all; set++) {
                if ((set & (1 << a)) != 0 && beginnings[set] != 0) {
                    sum += rowsWithStep(set, b);
                }
            }
            return sum;
        }

        long rowsWithPlace(int v, int place) {
            refreshEndings();
            int all = order.all();
            long sum = 0;
            for (int set = 0; set <= all; set++) {
                if (beginnings[set] != 0 && Integer.bitCount(set) == place) {
                    sum += rowsWithStep(set, v);
                }
            }
            return sum;
        }

        /** In how many rows just the things of an ideal come before a thing. */
        private long rowsWithStep(int ideal, int v) {
            return beginnings[ideal] * rowsOnFrom(ideal, v);
        }

        long rowNumbered(long k) {
            refreshEndings();
            if (k < 0 || k >= endings[0]) {
                return NONE;
            }
            long left = k;
            long row = 0;
            int placed = 0;
            for (int place = 0; place < order.size; place++) {
                int v = 0;
                while (v < order.size - 1 && left >= rowsOnFrom(placed, v)) {
                    left -= rowsOnFrom(placed, v);
                    v++;
                }
                row |= (long) v << (BITS_PER_PLACE * place);
                placed |= 1 << v;
            }
            return row;
        }

        long numberOf(long row) {
            refreshEndings();
            if (row >>> (BITS_PER_PLACE * order.size) != 0) {
                return NONE;
            }
            long number = 0;
            int placed = 0;
            for (int place = 0; place < order.size; place++) {
                int v = (int) (row >>> (BITS_PER_PLACE * place)) & PLACE_MASK;
                if (!order.has(v) || !order.canFollow(placed, v)) {
                    return NONE;
                }
                for (int lesser = 0; lesser < v; lesser++) {
                    number += rowsOnFrom(placed, lesser);
                }
                placed |= 1 << v;
            }
            return number;
        }

        private long rowsOnFrom(int placed, int v) {
            return order.canFollow(placed, v) ? endings[placed | (1 << v)] : 0;
        }

        private void refreshBeginnings() {
            if (beginningsSeen != order.version) {
                beginningsSeen = order.version;
                makeRoom(1 << order.size);
                countBeginnings();
            }
        }

        private void refreshEndings() {
            refreshBeginnings();
            if (endingsSeen != order.version) {
                endingsSeen = order.version;
                countEndings();
            }
        }

        private void makeRoom(int sets) {
            if (beginnings.length < sets) {
                beginnings = new long[sets];
                endings = new long[sets];
            }
        }

        private void countBeginnings() {
            int all = order.all();
            Arrays.fill(beginnings, 0L);
            beginnings[0] = 1;
            ideals = 0;
            for (int set = 0; set <= all; set++) {
                if (beginnings[set] != 0) {
                    ideals++;
                    handOn(set, all & ~set);
                }
            }
        }

        /** Each ideal is made from ideals with one thing less, which all have lesser numbers. */
        private void handOn(int ideal, int missing) {
            long ways = beginnings[ideal];
            for (int v = 0; v < order.size; v++) {
                int one = 1 << v;
                if ((missing & one) != 0 && (order.below[v] & missing) == 0) {
                    beginnings[ideal | one] += ways;
                }
            }
        }

        private void countEndings() {
            int all = order.all();
            endings[all] = 1;
            for (int set = all - 1; set >= 0; set--) {
                if (beginnings[set] != 0) {
                    endings[set] = sumOfEndings(set, all & ~set);
                }
            }
        }

        private long sumOfEndings(int ideal, int missing) {
            long sum = 0;
            for (int v = 0; v < order.size; v++) {
                int one = 1 << v;
                if ((missing & one) != 0 && (order.below[v] & missing) == 0) {
                    sum += endings[ideal | one];
                }
            }
            return sum;
        }
    }

    private static final class CutList {
        private final Order order;
        private int[] sets = new int[FIRST_ROOM];
        private int length;
        private int seen = NONE;

        CutList(Order order) {
            this.order = order;
        }

        int length() {
            refresh();
            return length;
        }

        boolean has(int k) {
            refresh();
            return k >= 0 && k < length;
        }

        int setOf(int k) {
            return sets[k];
        }

        int numberOfLeast(int set) {
            refresh();
            int wanted = close(set);
            for (int k = 0; k < length; k++) {
                if (sets[k] == wanted) {
                    return k;
                }
            }
            return NONE;
        }

        private void refresh() {
            if (seen != order.version) {
                seen = order.version;
                list();
            }
        }

        private void list() {
            int all = order.all();
            int set = close(0);
            length = 0;
            for (int bound = 0; bound < all && set != all; bound++) {
                append(set);
                set = following(set);
            }
            append(all);
        }

        private void append(int set) {
            if (length == sets.length) {
                sets = Arrays.copyOf(sets, 2 * length);
            }
            sets[length] = set;
            length++;
        }

        /**
         * Ganter's step: the first thing v for which closing brings no new thing with a greater number
         * than v gives the cut with the next greater number, so that not every set must be looked at.
         */
        private int following(int set) {
            for (int v = 0; v < order.size; v++) {
                if ((set & (1 << v)) == 0) {
                    int grown = (set & -(1 << v)) | (1 << v);
                    int closed = close(grown);
                    if ((closed & -(1 << v)) == grown) {
                        return closed;
                    }
                }
            }
            return order.all();
        }

        private int close(int set) {
            int over = order.all();
            for (int v = 0; v < order.size; v++) {
                if ((set & (1 << v)) != 0) {
                    over &= order.upFrom(v);
                }
            }
            int closed = order.all();
            for (int v = 0; v < order.size; v++) {
                if ((over & (1 << v)) != 0) {
                    closed &= order.downFrom(v);
                }
            }
            return closed;
        }
    }

    /** The sets of an interval, ordered by being part of one another, and the MU of the first with each. */
    private static final class MuRow {
        private int[] sets = new int[FIRST_ROOM];
        private int[] mus = new int[FIRST_ROOM];
        private int length;

        void clear() {
            length = 0;
        }

        /** A part has a lesser number than the whole, so by number no set comes before its parts. */
        void add(int set) {
            makeRoom();
            int place = length;
            while (place > 0 && sets[place - 1] > set) {
                sets[place] = sets[place - 1];
                place--;
            }
            sets[place] = set;
            length++;
        }

        int ofFirstWithLast() {
            if (length == 0) {
                return 0;
            }
            mus[0] = 1;
            for (int i = 1; i < length; i++) {
                mus[i] = -sumUnder(i);
            }
            return mus[length - 1];
        }

        private int sumUnder(int i) {
            int sum = 0;
            for (int j = 0; j < i; j++) {
                if (isPart(sets[j], sets[i])) {
                    sum += mus[j];
                }
            }
            return sum;
        }

        private void makeRoom() {
            if (length == sets.length) {
                sets = Arrays.copyOf(sets, 2 * length);
                mus = Arrays.copyOf(mus, 2 * length);
            }
        }
    }
}
