import java.util.ArrayList;
import java.util.List;

/** All answers for many small orders against the document's definitions, taken word by word. */
public final class BruteForceTest {
    private static final int NONE = OrderDesk.NONE;
    private static final int ORDERS_PER_SIZE = 120;

    /** One for all orders, so that it shows if something is left over from an earlier one. */
    private final RenewedDesk desk = new RenewedDesk();
    private int seed = 20261115;
    private int n;
    private boolean[][] below;
    private String told;

    private BruteForceTest() {
    }

    public static void main(String[] args) {
        BruteForceTest test = new BruteForceTest();
        for (int size = 1; size <= 6; size++) {
            for (int i = 0; i < ORDERS_PER_SIZE; i++) {
                test.tryOrder(size, i % 12, i % 4 == 3);
            }
        }
        for (int i = 0; i < 20; i++) {
            test.tryOrder(7, i, i % 5 == 4);
        }
        Check.finish();
    }

    private int draw(int bound) {
        seed = seed * 1103515245 + 12345;
        return (seed >>> 16) % bound;
    }

    private void tryOrder(int size, int puts, boolean frees) {
        n = size;
        below = new boolean[n][n];
        told = "begin(" + n + ")";
        Check.due(told, desk.begin(n), n);
        for (int i = 0; i < puts; i++) {
            tryPut(draw(n), draw(n));
            if (i == puts / 2) {
                checkAll();
            }
        }
        if (frees) {
            tryFree(draw(n));
        }
        checkAll();
    }

    private void due(String call, long got, long want) {
        Check.due(told + " " + call, got, want);
    }

    private void tryPut(int a, int b) {
        int want;
        if (a == b || below[b][a]) {
            want = NONE;
        } else {
            int earlier = pairs();
            below[a][b] = true;
            for (int via = 0; via < n; via++) {
                for (int x = 0; x < n; x++) {
                    for (int y = 0; y < n; y++) {
                        below[x][y] |= below[x][via] && below[via][y];
                    }
                }
            }
            want = pairs() - earlier;
        }
        due("put(" + a + ", " + b + ")", desk.put(a, b), want);
        told = told + " put(" + a + ", " + b + ")";
    }

    private void tryFree(int v) {
        int earlier = pairs();
        for (int x = 0; x < n; x++) {
            below[x][v] = false;
            below[v][x] = false;
        }
        due("free(" + v + ")", desk.free(v), earlier - pairs());
        told = told + " free(" + v + ")";
    }

    private int pairs() {
        int sum = 0;
        for (boolean[] line : below) {
            for (boolean one : line) {
                sum += one ? 1 : 0;
            }
        }
        return sum;
    }

    private void checkAll() {
        due("count(0)", desk.ask().count(0), n);
        due("count(1)", desk.ask().count(1), pairs());
        checkPairs();
        checkChain();
        checkApartAndParts();
        checkRows();
        checkIdeals();
        checkCuts();
    }

    private boolean has(int v) {
        return v >= 0 && v < n;
    }

    private static boolean in(int set, int v) {
        return (set >> v & 1) == 1;
    }

    private boolean atMost(int a, int b) {
        return a == b || below[a][b];
    }

    private boolean compare(int a, int b) {
        return atMost(a, b) || atMost(b, a);
    }

    private void checkPairs() {
        for (int a = -1; a <= n; a++) {
            int covers = 0;
            for (int b = -1; b <= n; b++) {
                boolean real = has(a) && has(b);
                boolean want = real && below[a][b];
                Check.due(told + " isBelow(" + a + ", " + b + ")", desk.ask().isBelow(a, b), want);
                due("mu(" + a + ", " + b + ")", desk.ask().mu(a, b), real ? muOfThings(a, b) : 0);
                if (want && !isBetween(a, b)) {
                    covers |= 1 << b;
                }
            }
            due("covers(" + a + ")", desk.ask().covers(a), has(a) ? covers : NONE);
        }
    }

    private boolean isBetween(int a, int b) {
        for (int c = 0; c < n; c++) {
            if (below[a][c] && below[c][b]) {
                return true;
            }
        }
        return false;
    }

    private int muOfThings(int a, int b) {
        if (a == b) {
            return 1;
        }
        if (!below[a][b]) {
            return 0;
        }
        int sum = muOfThings(a, a);
        for (int c = 0; c < n; c++) {
            if (below[a][c] && below[c][b]) {
                sum += muOfThings(a, c);
            }
        }
        return -sum;
    }

    private List<Integer> fromLowestUp(int set) {
        List<Integer> things = new ArrayList<>();
        for (int v = 0; v < n; v++) {
            if (in(set, v)) {
                int place = 0;
                while (place < things.size() && below[things.get(place)][v]) {
                    place++;
                }
                things.add(place, v);
            }
        }
        return things;
    }

    private boolean eachTwo(int set, boolean shouldCompare) {
        for (int a = 0; a < n; a++) {
            for (int b = 0; b < a; b++) {
                if (in(set, a) && in(set, b) && compare(a, b) != shouldCompare) {
                    return false;
                }
            }
        }
        return true;
    }

    private static boolean comesFirst(List<Integer> some, List<Integer> other) {
        for (int i = 0; i < some.size() && i < other.size(); i++) {
            if (!some.get(i).equals(other.get(i))) {
                return some.get(i) < other.get(i);
            }
        }
        return false;
    }

    private void checkChain() {
        List<Integer> best = new ArrayList<>();
        for (int set = 0; set < 1 << n; set++) {
            if (eachTwo(set, true)) {
                List<Integer> chain = fromLowestUp(set);
                if (chain.size() > best.size() || chain.size() == best.size() && comesFirst(chain, best)) {
                    best = chain;
                }
            }
        }
        due("count(2)", desk.ask().count(2), best.size());
        for (int i = -1; i <= n; i++) {
            due("chain(" + i + ")", desk.ask().chain(i), i >= 0 && i < best.size() ? best.get(i) : NONE);
        }
    }

    private void checkApartAndParts() {
        int best = 0;
        for (int set = 0; set < 1 << n; set++) {
            if (eachTwo(set, false) && Integer.bitCount(set) > Integer.bitCount(best)) {
                best = set;
            }
        }
        due("count(3)", desk.ask().count(3), Integer.bitCount(best));
        due("apart()", desk.ask().apart(), best);
        int[] nexts = new int[n];
        Check.due(told + " parts are there", partFrom(0, 0, nexts, Integer.bitCount(best)), true);
        for (int v = -1; v <= n; v++) {
            due("next(" + v + ")", desk.ask().next(v), has(v) ? nexts[v] : NONE);
        }
    }

    /** Tries the ways in the document's order, so that the first one with so few chains is the one. */
    private boolean partFrom(int v, int taken, int[] nexts, int chains) {
        if (v == n) {
            return n - Integer.bitCount(taken) == chains;
        }
        for (int w = 0; w < n; w++) {
            if (below[v][w] && !in(taken, w)) {
                nexts[v] = w;
                if (partFrom(v + 1, taken | 1 << w, nexts, chains)) {
                    return true;
                }
            }
        }
        nexts[v] = NONE;
        return partFrom(v + 1, taken, nexts, chains);
    }

    private void listRows(int[] row, int length, int taken, List<int[]> rows) {
        if (length == n) {
            if (isRow(row)) {
                rows.add(row.clone());
            }
            return;
        }
        for (int v = 0; v < n; v++) {
            if (!in(taken, v)) {
                row[length] = v;
                listRows(row, length + 1, taken | 1 << v, rows);
            }
        }
    }

    private boolean isRow(int[] row) {
        for (int p = 0; p < n; p++) {
            for (int q = p + 1; q < n; q++) {
                if (below[row[q]][row[p]]) {
                    return false;
                }
            }
        }
        return true;
    }

    private static long asNumber(int[] row) {
        long number = 0;
        long power = 1;
        for (int v : row) {
            number += v * power;
            power *= 16;
        }
        return number;
    }

    private void checkRows() {
        List<int[]> rows = new ArrayList<>();
        listRows(new int[n], 0, 0, rows);
        due("rows()", desk.ask().rows(), rows.size());
        long[][] before = new long[n][n];
        long[][] places = new long[n][n];
        for (int k = 0; k < rows.size(); k++) {
            int[] row = rows.get(k);
            due("row(" + k + ")", desk.ask().row(k), asNumber(row));
            due("rank(" + asNumber(row) + ")", desk.ask().rank(asNumber(row)), k);
            for (int p = 0; p < n; p++) {
                places[row[p]][p]++;
                for (int q = p + 1; q < n; q++) {
                    before[row[p]][row[q]]++;
                }
            }
        }
        due("row(-1)", desk.ask().row(-1), NONE);
        due("row(" + rows.size() + ")", desk.ask().row(rows.size()), NONE);
        for (int a = -1; a <= n; a++) {
            for (int b = -1; b <= n; b++) {
                boolean real = has(a) && has(b);
                long wanted = real && a != b ? before[a][b] : NONE;
                due("before(" + a + ", " + b + ")", desk.ask().before(a, b), wanted);
                due("places(" + a + ", " + b + ")", desk.ask().places(a, b), real ? places[a][b] : NONE);
            }
        }
        checkRanksOfOthers(rows);
    }

    private void checkRanksOfOthers(List<int[]> rows) {
        for (int i = 0; i < 60; i++) {
            int[] tried = rows.get(draw(rows.size())).clone();
            int p = draw(n);
            int q = draw(n);
            int other = i % 3 == 0 ? draw(16) : tried[q];
            tried[q] = tried[p];
            tried[p] = other;
            long number = asNumber(tried) + (i % 10 == 9 ? 1L << 4 * n : 0);
            int want = NONE;
            for (int k = 0; k < rows.size(); k++) {
                want = asNumber(rows.get(k)) == number ? k : want;
            }
            due("rank(" + number + ")", desk.ask().rank(number), want);
        }
    }

    private void checkIdeals() {
        int ideals = 0;
        for (int set = 0; set < 1 << n; set++) {
            boolean ideal = true;
            for (int a = 0; a < n; a++) {
                for (int b = 0; b < n; b++) {
                    ideal &= !(in(set, b) && below[a][b] && !in(set, a));
                }
            }
            ideals += ideal ? 1 : 0;
        }
        due("count(4)", desk.ask().count(4), ideals);
    }

    private boolean isOverAll(int v, int set) {
        for (int a = 0; a < n; a++) {
            if (in(set, a) && !atMost(a, v)) {
                return false;
            }
        }
        return true;
    }

    private boolean isCut(int set) {
        for (int v = 0; v < n; v++) {
            boolean underAll = true;
            for (int w = 0; w < n; w++) {
                underAll &= !isOverAll(w, set) || atMost(v, w);
            }
            if (underAll != in(set, v)) {
                return false;
            }
        }
        return true;
    }

    private void checkCuts() {
        List<Integer> cuts = new ArrayList<>();
        for (int set = 0; set < 1 << n; set++) {
            if (isCut(set)) {
                cuts.add(set);
            }
        }
        int many = cuts.size();
        due("count(5)", desk.ask().count(5), many);
        int[][] mus = musOf(cuts);
        for (int k = -1; k <= many; k++) {
            boolean first = k >= 0 && k < many;
            due("cut(" + k + ")", desk.ask().cut(k), first ? cuts.get(k) : NONE);
            for (int l = -1; l <= many; l++) {
                boolean both = first && l >= 0 && l < many;
                String args = "(" + k + ", " + l;
                due("joined" + args + ", false)", desk.ask().joined(k, l, false),
                        both ? leastOver(cuts, cuts.get(k) | cuts.get(l)) : NONE);
                due("joined" + args + ", true)", desk.ask().joined(k, l, true),
                        both ? greatestUnder(cuts, cuts.get(k), cuts.get(l)) : NONE);
                due("muOfCuts" + args + ")", desk.ask().muOfCuts(k, l), both ? mus[k][l] : 0);
            }
        }
        for (int set = -1; set <= 1 << n; set++) {
            boolean real = set >= 0 && set < 1 << n;
            due("least(" + set + ")", desk.ask().least(set), real ? leastOver(cuts, set) : NONE);
        }
    }

    private static boolean isPart(int part, int set) {
        return (part | set) == set;
    }

    /** The cut over a set that is part of all others over it; -2 if there were none such. */
    private static int leastOver(List<Integer> cuts, int set) {
        for (int k = 0; k < cuts.size(); k++) {
            boolean least = isPart(set, cuts.get(k));
            for (int other : cuts) {
                least &= !isPart(set, other) || isPart(cuts.get(k), other);
            }
            if (least) {
                return k;
            }
        }
        return -2;
    }

    private static int greatestUnder(List<Integer> cuts, int one, int two) {
        for (int k = 0; k < cuts.size(); k++) {
            boolean greatest = isPart(cuts.get(k), one) && isPart(cuts.get(k), two);
            for (int other : cuts) {
                greatest &= !(isPart(other, one) && isPart(other, two)) || isPart(other, cuts.get(k));
            }
            if (greatest) {
                return k;
            }
        }
        return -2;
    }

    private static int[][] musOf(List<Integer> cuts) {
        int[][] mus = new int[cuts.size()][cuts.size()];
        for (int k = 0; k < cuts.size(); k++) {
            mus[k][k] = 1;
            for (int l = k + 1; l < cuts.size(); l++) {
                if (isPart(cuts.get(k), cuts.get(l))) {
                    for (int between = k; between < l; between++) {
                        if (isPart(cuts.get(between), cuts.get(l))) {
                            mus[k][l] -= mus[k][between];
                        }
                    }
                }
            }
        }
        return mus;
    }
}
