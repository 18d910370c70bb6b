/** Orders of 8 to 14 things: each answer against other ways to it, and against what it must agree with. */
public final class LargeOrdersTest {
    private static final int NONE = OrderDesk.NONE;

    private int seed = 7;
    private int n;
    private boolean[][] below;
    private RenewedDesk desk;
    private String told;

    private LargeOrdersTest() {
    }

    public static void main(String[] args) {
        LargeOrdersTest test = new LargeOrdersTest();
        for (int n = 8; n <= 14; n++) {
            for (int puts = 0; puts <= 3 * n; puts += 3) {
                test.tryOrder(n, puts);
            }
        }
        checkCrown();
        Check.finish();
    }

    private int draw(int bound) {
        seed = seed * 1103515245 + 12345;
        return (seed >>> 16) % bound;
    }

    private void due(String call, long got, long want) {
        Check.due(told + " " + call, got, want);
    }

    private void tryOrder(int things, int puts) {
        n = things;
        below = new boolean[n][n];
        desk = new RenewedDesk();
        desk.begin(n);
        told = "begin(" + n + ")";
        for (int i = 0; i < puts; i++) {
            put(draw(n), draw(n));
        }
        checkPairs();
        checkChain();
        checkApart();
        checkParts();
        checkRows();
        checkCuts();
        checkMuOfCuts();
        checkMu();
    }

    private void put(int a, int b) {
        desk.put(a, b);
        told = told + " put(" + a + ", " + b + ")";
        if (a == b || below[b][a]) {
            return;
        }
        for (int x = 0; x < n; x++) {
            for (int y = 0; y < n; y++) {
                below[x][y] |= atMost(x, a) && atMost(b, y);
            }
        }
    }

    private boolean atMost(int a, int b) {
        return a == b || below[a][b];
    }

    private static boolean in(int set, int v) {
        return (set >> v & 1) == 1;
    }

    private void checkPairs() {
        int pairs = 0;
        for (int a = 0; a < n; a++) {
            for (int b = 0; b < n; b++) {
                pairs += below[a][b] ? 1 : 0;
                Check.due(told + " isBelow(" + a + ", " + b + ")", desk.ask().isBelow(a, b), below[a][b]);
            }
        }
        due("count(1)", desk.ask().count(1), pairs);
    }

    /** How many things the longest chain has that begins with a thing. */
    private int lengthFrom(int v) {
        int longest = 0;
        for (int w = 0; w < n; w++) {
            longest = below[v][w] ? Math.max(longest, lengthFrom(w)) : longest;
        }
        return 1 + longest;
    }

    private void checkChain() {
        int length = 0;
        for (int v = 0; v < n; v++) {
            length = Math.max(length, lengthFrom(v));
        }
        due("count(2)", desk.ask().count(2), length);
        int last = NONE;
        for (int i = 0; i < length; i++) {
            int least = 0;
            while (lengthFrom(least) != length - i || last != NONE && !below[last][least]) {
                least++;
            }
            due("chain(" + i + ")", desk.ask().chain(i), least);
            last = least;
        }
        due("chain(" + length + ")", desk.ask().chain(length), NONE);
    }

    private void checkApart() {
        int best = 0;
        for (int set = 0; set < 1 << n; set++) {
            if (Integer.bitCount(set) > Integer.bitCount(best) && isApart(set)) {
                best = set;
            }
        }
        due("apart()", desk.ask().apart(), best);
        due("count(3)", desk.ask().count(3), Integer.bitCount(best));
    }

    private boolean isApart(int set) {
        for (int a = 0; a < n; a++) {
            for (int b = 0; b < n; b++) {
                if (in(set, a) && in(set, b) && below[a][b]) {
                    return false;
                }
            }
        }
        return true;
    }

    private void checkParts() {
        int[][] links = mostLinks();
        int taken = 0;
        for (int v = 0; v < n; v++) {
            int want = NONE;
            for (int w = n - 1; w >= 0; w--) {
                if (canLink(v, w, taken) && links[v + 1][taken | 1 << w] + 1 == links[v][taken]) {
                    want = w;
                }
            }
            due("next(" + v + ")", desk.ask().next(v), want);
            taken |= want == NONE ? 0 : 1 << want;
        }
        due("chains", n - Integer.bitCount(taken), desk.ask().count(3));
    }

    /** How many of the things from v on can have a next one, by what is taken as a next one already. */
    private int[][] mostLinks() {
        int[][] links = new int[n + 1][1 << n];
        for (int v = n - 1; v >= 0; v--) {
            for (int taken = 0; taken < 1 << n; taken++) {
                links[v][taken] = links[v + 1][taken];
                for (int w = 0; w < n; w++) {
                    if (canLink(v, w, taken)) {
                        links[v][taken] = Math.max(links[v][taken], links[v + 1][taken | 1 << w] + 1);
                    }
                }
            }
        }
        return links;
    }

    private boolean canLink(int v, int w, int taken) {
        return below[v][w] && !in(taken, w);
    }

    private void checkRows() {
        long rows = desk.ask().rows();
        for (int v = 0; v < n; v++) {
            long sum = 0;
            for (int place = 0; place < n; place++) {
                sum += desk.ask().places(v, place);
            }
            due("places of " + v, sum, rows);
            int w = (v + 1 + draw(n - 1)) % n;
            long both = desk.ask().before(v, w) + desk.ask().before(w, v);
            due("before(" + v + ", " + w + ") and the other way", both, rows);
            due("before(" + v + ", " + w + ") is all", desk.ask().before(v, w) == rows ? 1 : 0, below[v][w] ? 1 : 0);
        }
        for (int i = 0; i < 20; i++) {
            checkRow(i == 0 ? rows - 1 : (draw(30000) * 4000037L + draw(30000)) % rows);
        }
        due("row after the last one", desk.ask().row(rows), NONE);
    }

    private void checkRow(long k) {
        long row = desk.ask().row(k);
        due("row(" + k + ") is one", isRow(row) ? 1 : 0, 1);
        due("rank of row " + k, desk.ask().rank(row), k);
        if (k > 0) {
            due("row " + k + " comes after the last one", comesFirst(desk.ask().row(k - 1), row) ? 1 : 0, 1);
        }
    }

    private boolean isRow(long row) {
        int placed = 0;
        for (int place = 0; place < n; place++) {
            int v = (int) (row >> 4 * place) & 15;
            if (v >= n || in(placed, v)) {
                return false;
            }
            for (int lower = 0; lower < n; lower++) {
                if (below[lower][v] && !in(placed, lower)) {
                    return false;
                }
            }
            placed |= 1 << v;
        }
        return row >> 4 * n == 0;
    }

    private static boolean comesFirst(long some, long other) {
        int place = Long.numberOfTrailingZeros(some ^ other) / 4;
        return some != other && (some >> 4 * place & 15) < (other >> 4 * place & 15);
    }

    private void checkCuts() {
        int k = 0;
        for (int set = 0; set < 1 << n; set++) {
            if (closed(set) == set) {
                due("cut(" + k + ")", desk.ask().cut(k), set);
                due("least(" + set + ")", desk.ask().least(set), k);
                k++;
            }
        }
        due("count(5)", desk.ask().count(5), k);
        for (int i = 0; i < 20; i++) {
            int one = draw(k);
            int two = draw(k);
            int first = desk.ask().cut(one);
            int second = desk.ask().cut(two);
            int join = desk.ask().joined(one, two, false);
            int meet = desk.ask().joined(one, two, true);
            due("join of " + first + " and " + second, desk.ask().cut(join), closed(first | second));
            due("meet of " + first + " and " + second, desk.ask().cut(meet), first & second);
        }
    }

    private int closed(int set) {
        int closed = (1 << n) - 1;
        for (int over = 0; over < n; over++) {
            boolean overAll = true;
            int down = 0;
            for (int v = 0; v < n; v++) {
                overAll &= atMost(v, over) || !in(set, v);
                down |= atMost(v, over) ? 1 << v : 0;
            }
            closed &= overAll ? down : -1;
        }
        return closed;
    }

    private void checkMuOfCuts() {
        int many = desk.ask().count(5);
        for (int l = 1; l < many; l++) {
            int set = desk.ask().cut(l);
            int sum = 0;
            for (int between = 0; between <= l; between++) {
                if ((desk.ask().cut(between) & ~set) == 0) {
                    sum += desk.ask().muOfCuts(0, between);
                }
            }
            due("mus of cuts undo the sum at " + l, sum, 0);
        }
    }

    private void checkMu() {
        for (int a = 0; a < n; a++) {
            for (int b = 0; b < n; b++) {
                int sum = 0;
                for (int c = 0; c < n; c++) {
                    sum += atMost(c, b) ? desk.ask().mu(a, c) : 0;
                }
                due("mus of " + a + " undo the sum at " + b, sum, a == b ? 1 : 0);
            }
        }
    }

    /** The cuts of the crown are as all the subsets of seven. */
    private static void checkCrown() {
        OrderDesk desk = Desks.crown();
        Check.due("cuts of the crown", desk.count(5), 128);
        for (int k = 0; k < 128; k++) {
            int set = desk.cut(k);
            int size = set == 16383 ? 7 : Integer.bitCount(set & 127);
            Check.due("muOfCuts(0, " + k + ") of the crown", desk.muOfCuts(0, k), size % 2 == 0 ? 1 : -1);
        }
    }
}
