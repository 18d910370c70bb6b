/**
 * Walks of 512 calls through one object, changes and questions as they come: each answer must be that of
 * an object that has just been made and told the order of the moment, and has been asked nothing else.
 */
public final class WalkTest {
    private static final int NONE = OrderDesk.NONE;
    private static final int MOST_CALLS = 512;
    private static final int QUESTIONS = 20;
    private static final int WALKS = 60;

    private int seed;
    private int n = 1;
    private boolean[][] below = new boolean[1][1];
    private final OrderDesk walked = new OrderDesk();

    private WalkTest(int seed) {
        this.seed = seed;
    }

    public static void main(String[] args) {
        for (int walk = 0; walk < WALKS; walk++) {
            // most walks go through few things, where the orders are less alike; some through fourteen
            new WalkTest(1000 + walk).go("walk " + walk, walk % 6 == 5 ? 14 : 3 + walk % 6);
        }
        Check.finish();
    }

    private int draw(int bound) {
        seed = seed * 1103515245 + 12345;
        return (seed >>> 16) % bound;
    }

    private void go(String walk, int most) {
        for (int call = 0; call < MOST_CALLS; call++) {
            String told = walk + ", call " + call + ": ";
            int kind = call == 0 ? 0 : draw(100);
            if (kind < 2) {
                tryBegin(told, draw(5) == 0 ? 15 * draw(2) : most - draw(3));
            } else if (kind < 30) {
                tryPut(told, someThing(), someThing());
            } else if (kind < 33) {
                tryFree(told, someThing());
            } else {
                tryQuestion(told, draw(QUESTIONS));
            }
        }
    }

    /** A thing as a rule; at times the number just before the first one or behind the last one. */
    private int someThing() {
        return draw(25) == 0 ? (draw(2) == 0 ? -1 : n) : draw(n);
    }

    private boolean has(int v) {
        return v >= 0 && v < n;
    }

    private int pairs() {
        int sum = 0;
        for (boolean[] line : below) {
            for (boolean one : line) {
                sum += one ? 1 : 0;
            }
        }
        return sum;
    }

    private void tryBegin(String told, int things) {
        boolean real = things >= 1 && things <= 14;
        Check.due(told + "begin(" + things + ")", walked.begin(things), real ? things : NONE);
        if (real) {
            n = things;
            below = new boolean[n][n];
        }
    }

    private void tryPut(String told, int a, int b) {
        int want = NONE;
        if (has(a) && has(b) && a != b && !below[b][a]) {
            int earlier = pairs();
            for (int x = 0; x < n; x++) {
                for (int y = 0; y < n; y++) {
                    below[x][y] |= (x == a || below[x][a]) && (y == b || below[b][y]);
                }
            }
            want = pairs() - earlier;
        }
        Check.due(told + "put(" + a + ", " + b + ")", walked.put(a, b), want);
    }

    private void tryFree(String told, int v) {
        int want = NONE;
        if (has(v)) {
            int earlier = pairs();
            for (int other = 0; other < n; other++) {
                below[v][other] = false;
                below[other][v] = false;
            }
            want = earlier - pairs();
        }
        Check.due(told + "free(" + v + ")", walked.free(v), want);
    }

    private OrderDesk toldAnew() {
        OrderDesk desk = new OrderDesk();
        desk.begin(n);
        for (int b = n - 1; b >= 0; b--) {
            for (int a = 0; a < n; a++) {
                if (below[a][b]) {
                    desk.put(a, b);
                }
            }
        }
        return desk;
    }

    private void tryQuestion(String told, int question) {
        OrderDesk other = toldAnew();
        int i = someThing();
        int j = someThing();
        int cuts = other.count(5);
        int k = draw(cuts + 1) - draw(2);
        int l = draw(cuts + 1);
        int set = draw((1 << n) + 1);
        long rows = other.rows();
        long number = draw(9) == 0 ? rows : (draw(30000) * 4000037L + draw(30000)) % rows;
        long row = draw(9) == 0 ? number : other.row(number);
        String call = told + "question " + question + " with " + i + ", " + j + ", " + k + ", " + l
                + ", " + set + ", " + number + ", " + row;
        long want = answer(toldAnew(), question, new int[] {i, j, k, l, set}, number, row);
        Check.due(call, answer(walked, question, new int[] {i, j, k, l, set}, number, row), want);
    }

    private static long answer(OrderDesk desk, int question, int[] by, long number, long row) {
        switch (question) {
            case 0: return desk.isBelow(by[0], by[1]) ? 1 : 0;
            case 1: return desk.covers(by[0]);
            case 2: return desk.count(1);
            case 3: return desk.count(2);
            case 4: return desk.count(3);
            case 5: return desk.count(4);
            case 6: return desk.count(5);
            case 7: return desk.chain(by[0]);
            case 8: return desk.apart();
            case 9: return desk.next(by[0]);
            case 10: return desk.rows();
            case 11: return desk.before(by[0], by[1]);
            case 12: return desk.places(by[0], by[1]);
            case 13: return desk.row(number);
            case 14: return desk.rank(row);
            case 15: return desk.cut(by[2]);
            case 16: return desk.least(by[4]);
            case 17: return desk.joined(by[2], by[3], number % 2 == 0);
            case 18: return desk.mu(by[0], by[1]);
            default: return desk.muOfCuts(by[2], by[3]);
        }
    }
}
