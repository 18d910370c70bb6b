/** Orders of many things: what must agree between the calls, and known numbers. */
public final class LargeOrdersTest {
    private static final int NONE = OrderDesk.NONE;

    private int seed = 7;

    private LargeOrdersTest() {
    }

    public static void main(String[] args) {
        LargeOrdersTest test = new LargeOrdersTest();
        for (int n = 8; n <= 14; n++) {
            for (int puts = 0; puts <= 3 * n; puts += 3) {
                test.tryOrder(n, puts);
            }
        }
        checkCrown();
        Check.finish();
    }

    private int draw(int bound) {
        seed = seed * 1103515245 + 12345;
        return (seed >>> 16) % bound;
    }

    private void tryOrder(int n, int puts) {
        OrderDesk desk = new OrderDesk();
        desk.begin(n);
        StringBuilder told = new StringBuilder("begin(" + n + ")");
        for (int i = 0; i < puts; i++) {
            int a = draw(n);
            int b = draw(n);
            desk.put(a, b);
            told.append(" put(").append(a).append(", ").append(b).append(")");
        }
        checkRows(told + " ", desk, n);
        checkParts(told + " ", desk, n);
        checkCuts(told + " ", desk, n);
        checkMu(told + " ", desk, n);
    }

    private void checkRows(String told, OrderDesk desk, int n) {
        long rows = desk.rows();
        for (int v = 0; v < n; v++) {
            long sum = 0;
            for (int place = 0; place < n; place++) {
                sum += desk.places(v, place);
            }
            Check.due(told + "places of " + v, sum, rows);
            int w = (v + 1 + draw(n - 1)) % n;
            Check.due(told + "before " + v + " and " + w, desk.before(v, w) + desk.before(w, v), rows);
        }
        for (int i = 0; i < 20; i++) {
            long k = i == 0 ? rows - 1 : (draw(30000) * 4000037L + draw(30000)) % rows;
            Check.due(told + "rank of row " + k, desk.rank(desk.row(k)), k);
        }
        Check.due(told + "row after the last one", desk.row(rows), NONE);
    }

    private static void checkParts(String told, OrderDesk desk, int n) {
        int taken = 0;
        int links = 0;
        for (int v = 0; v < n; v++) {
            int next = desk.next(v);
            if (next != NONE) {
                Check.due(told + "next of " + v + " is above", desk.isBelow(v, next), true);
                Check.due(told + "next of " + v + " is no other's", taken >> next & 1, 0);
                taken |= 1 << next;
                links++;
            }
        }
        Check.due(told + "chains", n - links, desk.count(3));
        int best = 0;
        for (int set = 0; set < 1 << n; set++) {
            if (Integer.bitCount(set) > Integer.bitCount(best) && isApart(desk, n, set)) {
                best = set;
            }
        }
        Check.due(told + "apart()", desk.apart(), best);
    }

    private static boolean isApart(OrderDesk desk, int n, int set) {
        for (int a = 0; a < n; a++) {
            for (int b = 0; b < n; b++) {
                if ((set >> a & 1) == 1 && (set >> b & 1) == 1 && desk.isBelow(a, b)) {
                    return false;
                }
            }
        }
        return true;
    }

    private void checkCuts(String told, OrderDesk desk, int n) {
        int many = desk.count(5);
        int k = 0;
        for (int set = 0; set < 1 << n; set++) {
            if (closed(desk, n, set) == set) {
                Check.due(told + "cut(" + k + ")", desk.cut(k), set);
                Check.due(told + "least(" + set + ")", desk.least(set), k);
                k++;
            }
        }
        Check.due(told + "count(5)", many, k);
        for (int i = 0; i < 20; i++) {
            int one = draw(many);
            int two = draw(many);
            int both = desk.cut(one) | desk.cut(two);
            Check.due(told + "join", desk.cut(desk.joined(one, two, false)), closed(desk, n, both));
            Check.due(told + "meet", desk.cut(desk.joined(one, two, true)), desk.cut(one) & desk.cut(two));
        }
        for (int l = 1; l < many; l++) {
            int sum = 0;
            for (int between = 0; between <= l; between++) {
                if ((desk.cut(between) & ~desk.cut(l)) == 0) {
                    sum += desk.muOfCuts(0, between);
                }
            }
            Check.due(told + "mus of cuts undo the sum at " + l, sum, 0);
        }
    }

    private static int closed(OrderDesk desk, int n, int set) {
        int closed = (1 << n) - 1;
        for (int over = 0; over < n; over++) {
            boolean overAll = true;
            int down = 1 << over;
            for (int v = 0; v < n; v++) {
                boolean under = v == over || desk.isBelow(v, over);
                overAll &= under || (set >> v & 1) == 0;
                down |= under ? 1 << v : 0;
            }
            closed &= overAll ? down : -1;
        }
        return closed;
    }

    private static void checkMu(String told, OrderDesk desk, int n) {
        for (int a = 0; a < n; a++) {
            for (int b = 0; b < n; b++) {
                int sum = 0;
                for (int c = 0; c < n; c++) {
                    boolean under = c == b || desk.isBelow(c, b);
                    sum += under ? desk.mu(a, c) : 0;
                }
                Check.due(told + "mus of " + a + " undo the sum at " + b, sum, a == b ? 1 : 0);
            }
        }
    }

    /** The cuts of the crown are as all the subsets of seven. */
    private static void checkCrown() {
        OrderDesk desk = Desks.crown();
        Check.due("cuts of the crown", desk.count(5), 128);
        for (int k = 0; k < 128; k++) {
            int things = Integer.bitCount(desk.cut(k) & 127);
            int size = desk.cut(k) == 16383 ? 7 : things;
            Check.due("muOfCuts(0, " + k + ") of the crown", desk.muOfCuts(0, k), size % 2 == 0 ? 1 : -1);
        }
    }
}
