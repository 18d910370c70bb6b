/** Promises 16 to 20, cuts and MU: one test for each sentence that names a boundary. */
public final class BoundaryCutsTest {
    private static final int NONE = OrderDesk.NONE;
    private static final int MOST = Desks.MOST;
    private static final int ALL = 16383;

    private BoundaryCutsTest() {
    }

    public static void main(String[] args) {
        cutOfOneThing();
        cutOfMostThingsApart();
        cutOfMostThingsInALine();
        cutOfTheCrown();
        cutWhereNothingIsAbove();
        cutThatThereIsNot();
        leastOfOneThing();
        leastOfTheEmptySet();
        leastOfTheFullSet();
        leastWhereNothingIsAbove();
        leastOfASetWithOthers();
        leastOfASetBelowZero();
        joinedOfOneThing();
        joinedOfTheSameCut();
        joinedOfTheFirstAndTheLast();
        joinedOfMostThings();
        joinedWithoutSuchCut();
        muOfOneThing();
        muOfTheSameThing();
        muWhereTheFirstIsNotBelow();
        muOfMostBetween();
        muWithoutSuchThings();
        muOfCutsOfOneThing();
        muOfTheSameCut();
        muOfCutsWhereTheFirstIsNotUnder();
        muOfCutsOfMostBetween();
        muOfCutsWithoutSuchCuts();
        Check.finish();
    }

    private static void cutOfOneThing() {
        for (OrderDesk desk : Desks.withOneThing()) {
            Check.due("16: cut(0) of one thing", desk.cut(0), 1);
            Check.due("16: cut(1) of one thing", desk.cut(1), NONE);
            Check.due("16: cut(-1) of one thing", desk.cut(-1), NONE);
        }
    }

    private static void cutOfMostThingsApart() {
        for (OrderDesk desk : new OrderDesk[] {Desks.desk(MOST), Desks.grownToMost()}) {
            Check.due("16: nothing is the first cut", desk.cut(0), 0);
            for (int v = 0; v < MOST; v++) {
                Check.due("16: cut(" + (v + 1) + ")", desk.cut(v + 1), 1 << v);
            }
            Check.due("16: all are the last cut", desk.cut(15), ALL);
            Check.due("16: behind the last cut", desk.cut(16), NONE);
        }
    }

    private static void cutOfMostThingsInALine() {
        OrderDesk line = Desks.line(MOST);
        for (int k = 0; k < MOST; k++) {
            Check.due("16: cut(" + k + ") of a line", line.cut(k), (2 << k) - 1);
        }
        Check.due("16: behind the last cut of a line", line.cut(MOST), NONE);
        Check.due("16: the first of a line downwards", Desks.lineDownwards(MOST).cut(0), 1 << 13);
    }

    private static void cutOfTheCrown() {
        OrderDesk crown = Desks.crown();
        Check.due("16: the first cut of the crown", crown.cut(0), 0);
        Check.due("16: the second", crown.cut(1), 1);
        Check.due("16: the last but one", crown.cut(126), 63 | 1 << 13);
        Check.due("16: the last", crown.cut(127), ALL);
        Check.due("16: behind the last", crown.cut(128), NONE);
    }

    private static void cutWhereNothingIsAbove() {
        OrderDesk fork = Desks.desk(3, 0, 1, 0, 2);
        int[] cuts = {1, 3, 5, 7};
        for (int k = 0; k < cuts.length; k++) {
            Check.due("16: cut(" + k + ") of a fork", fork.cut(k), cuts[k]);
        }
        Check.due("16: cut(4) of a fork", fork.cut(4), NONE);
        OrderDesk two = Desks.desk(2);
        Check.due("16: of two that keep apart both are the last cut", two.cut(3), 3);
        Check.due("16: behind it", two.cut(4), NONE);
    }

    private static void cutThatThereIsNot() {
        for (OrderDesk desk : severalDesks()) {
            int many = desk.count(5);
            Check.due("16: the last of " + many, desk.cut(many - 1), (1 << desk.count(0)) - 1);
            for (int k : Desks.notFrom0To(many)) {
                Check.due("16: cut(" + k + ") of " + many, desk.cut(k), NONE);
            }
        }
    }

    private static OrderDesk[] severalDesks() {
        return new OrderDesk[] {
            new OrderDesk(), Desks.shrunkTo(1), Desks.desk(2), Desks.letterN(), Desks.pentagon(),
            Desks.shrunkTo(13), Desks.grownToMost(), Desks.line(MOST), Desks.crown()
        };
    }

    private static void leastOfOneThing() {
        for (OrderDesk desk : Desks.withOneThing()) {
            Check.due("17: least(0) of one thing", desk.least(0), 0);
            Check.due("17: least(1) of one thing", desk.least(1), 0);
            Check.due("17: least(2) of one thing", desk.least(2), NONE);
            Check.due("17: least(3) of one thing", desk.least(3), NONE);
            Check.due("17: least(-1) of one thing", desk.least(-1), NONE);
        }
    }

    private static void leastOfTheEmptySet() {
        for (OrderDesk desk : severalDesks()) {
            Check.due("17: the empty set is in each cut", desk.least(0), 0);
        }
        Check.due("17: where it is a cut", Desks.desk(MOST).cut(0), 0);
        Check.due("17: where the lowest one is in all", Desks.line(MOST).cut(0), 1);
    }

    private static void leastOfTheFullSet() {
        for (OrderDesk desk : severalDesks()) {
            int full = (1 << desk.count(0)) - 1;
            Check.due("17: the full set is in the last cut alone", desk.least(full), desk.count(5) - 1);
        }
    }

    private static void leastWhereNothingIsAbove() {
        OrderDesk apart = Desks.desk(MOST);
        Check.due("17: least of two that keep apart", apart.least(3), 15);
        Check.due("17: least of the first and the last", apart.least(1 | 1 << 13), 15);
        OrderDesk fork = Desks.desk(3, 0, 1, 0, 2);
        Check.due("17: least of both highest ones", fork.least(6), 3);
        Check.due("17: least of all", fork.least(7), 3);
    }

    private static void leastOfASetWithOthers() {
        for (int n = 1; n <= MOST; n++) {
            OrderDesk desk = Desks.shrunkTo(n);
            int full = (1 << n) - 1;
            for (int v = n; v < 32; v++) {
                Check.due("17: thing " + v + " alone of " + n, desk.least(1 << v), NONE);
                Check.due("17: thing " + v + " with all of " + n, desk.least(full | 1 << v), NONE);
                Check.due("17: thing " + v + " with 0 of " + n, desk.least(1 | 1 << v), NONE);
            }
            Check.due("17: all but those that there are of " + n, desk.least(~full), NONE);
        }
    }

    private static void leastOfASetBelowZero() {
        for (OrderDesk desk : severalDesks()) {
            for (int set : new int[] {-1, -2, Integer.MIN_VALUE, Integer.MIN_VALUE + 1}) {
                Check.due("17: least(" + set + ")", desk.least(set), NONE);
            }
            Check.due("17: least of the greatest number", desk.least(Integer.MAX_VALUE), NONE);
        }
    }

    private static void joinedOfOneThing() {
        for (OrderDesk desk : Desks.withOneThing()) {
            Check.due("18: join of one thing's cut", desk.joined(0, 0, false), 0);
            Check.due("18: meet of one thing's cut", desk.joined(0, 0, true), 0);
            Check.due("18: join with the next", desk.joined(0, 1, false), NONE);
            Check.due("18: meet with the next", desk.joined(1, 0, true), NONE);
        }
    }

    private static void joinedOfTheSameCut() {
        for (OrderDesk desk : severalDesks()) {
            int many = desk.count(5);
            for (int k = 0; k < many; k++) {
                Check.due("18: join of " + k + " with itself", desk.joined(k, k, false), k);
                Check.due("18: meet of " + k + " with itself", desk.joined(k, k, true), k);
            }
        }
    }

    private static void joinedOfTheFirstAndTheLast() {
        for (OrderDesk desk : severalDesks()) {
            int last = desk.count(5) - 1;
            Check.due("18: join of first and last", desk.joined(0, last, false), last);
            Check.due("18: join of last and first", desk.joined(last, 0, false), last);
            Check.due("18: meet of first and last", desk.joined(0, last, true), 0);
            Check.due("18: meet of last and first", desk.joined(last, 0, true), 0);
        }
    }

    private static void joinedOfMostThings() {
        OrderDesk apart = Desks.grownToMost();
        Check.due("18: join of two that keep apart is all", apart.joined(1, 14, false), 15);
        Check.due("18: meet of two that keep apart is nothing", apart.joined(1, 14, true), 0);
        OrderDesk line = Desks.line(MOST);
        Check.due("18: join along a line", line.joined(2, 12, false), 12);
        Check.due("18: meet along a line", line.joined(2, 12, true), 2);
    }

    private static void joinedWithoutSuchCut() {
        for (OrderDesk desk : severalDesks()) {
            int many = desk.count(5);
            for (int k : Desks.notFrom0To(many)) {
                for (int l : new int[] {0, many - 1, many, -1, k}) {
                    Check.due("18: join " + k + ", " + l + " of " + many, desk.joined(k, l, false), NONE);
                    Check.due("18: join " + l + ", " + k + " of " + many, desk.joined(l, k, false), NONE);
                    Check.due("18: meet " + k + ", " + l + " of " + many, desk.joined(k, l, true), NONE);
                    Check.due("18: meet " + l + ", " + k + " of " + many, desk.joined(l, k, true), NONE);
                }
            }
        }
    }

    private static void muOfOneThing() {
        for (OrderDesk desk : Desks.withOneThing()) {
            Check.due("19: mu(0, 0) of one thing", desk.mu(0, 0), 1);
            Check.due("19: mu(0, 1) of one thing", desk.mu(0, 1), 0);
            Check.due("19: mu(1, 0) of one thing", desk.mu(1, 0), 0);
            Check.due("19: mu(1, 1) of one thing", desk.mu(1, 1), 0);
        }
    }

    private static void muOfTheSameThing() {
        OrderDesk apart = Desks.desk(MOST);
        OrderDesk line = Desks.line(MOST);
        for (int v = 0; v < MOST; v++) {
            Check.due("19: mu(" + v + ", " + v + ") of 14 that keep apart", apart.mu(v, v), 1);
            Check.due("19: mu(" + v + ", " + v + ") of a line", line.mu(v, v), 1);
        }
    }

    private static void muWhereTheFirstIsNotBelow() {
        OrderDesk apart = Desks.desk(MOST);
        OrderDesk line = Desks.line(MOST);
        for (int v = 1; v < MOST; v++) {
            Check.due("19: mu(0, " + v + ") of 14 that keep apart", apart.mu(0, v), 0);
            Check.due("19: mu(" + v + ", 0) of a line, from above", line.mu(v, 0), 0);
        }
        OrderDesk n = Desks.letterN();
        Check.due("19: mu(1, 2) of the N, which keep apart", n.mu(1, 2), 0);
        Check.due("19: mu(3, 1) of the N, from above", n.mu(3, 1), 0);
    }

    private static void muOfMostBetween() {
        OrderDesk line = Desks.line(MOST);
        for (int v = 1; v < MOST; v++) {
            Check.due("19: mu(0, " + v + ") of a line", line.mu(0, v), v == 1 ? -1 : 0);
        }
        OrderDesk fan = Desks.desk(MOST);
        for (int v = 1; v < 13; v++) {
            fan.put(0, v);
            fan.put(v, 13);
        }
        Check.due("19: mu(0, 13) with twelve between", fan.mu(0, 13), 11);
        Check.due("19: mu(0, 12) with none between", fan.mu(0, 12), -1);
    }

    private static void muWithoutSuchThings() {
        for (int n = 1; n <= MOST; n++) {
            OrderDesk desk = Desks.shrunkTo(n);
            OrderDesk line = Desks.line(n);
            for (int v : Desks.notFrom0To(n)) {
                Check.due("19: mu(0, " + v + ") of " + n, desk.mu(0, v), 0);
                Check.due("19: mu(" + v + ", 0) of " + n, desk.mu(v, 0), 0);
                Check.due("19: mu(" + v + ", " + v + ") of " + n, desk.mu(v, v), 0);
                Check.due("19: mu(-1, " + v + ") of " + n, desk.mu(-1, v), 0);
                Check.due("19: mu(last, " + v + ") of a line of " + n, line.mu(n - 1, v), 0);
                Check.due("19: mu(" + v + ", last) of a line of " + n, line.mu(v, n - 1), 0);
            }
        }
    }

    private static void muOfCutsOfOneThing() {
        for (OrderDesk desk : Desks.withOneThing()) {
            Check.due("20: muOfCuts(0, 0) of one thing", desk.muOfCuts(0, 0), 1);
            Check.due("20: muOfCuts(0, 1) of one thing", desk.muOfCuts(0, 1), 0);
            Check.due("20: muOfCuts(1, 0) of one thing", desk.muOfCuts(1, 0), 0);
            Check.due("20: muOfCuts(1, 1) of one thing", desk.muOfCuts(1, 1), 0);
        }
    }

    private static void muOfTheSameCut() {
        for (OrderDesk desk : severalDesks()) {
            int many = desk.count(5);
            for (int k = 0; k < many; k++) {
                Check.due("20: muOfCuts(" + k + ", " + k + ") of " + many, desk.muOfCuts(k, k), 1);
            }
        }
    }

    private static void muOfCutsWhereTheFirstIsNotUnder() {
        OrderDesk apart = Desks.desk(MOST);
        OrderDesk line = Desks.line(MOST);
        for (int k = 2; k < 15; k++) {
            Check.due("20: muOfCuts(1, " + k + ") beside each other", apart.muOfCuts(1, k), 0);
            Check.due("20: muOfCuts(" + k + ", 1) beside each other", apart.muOfCuts(k, 1), 0);
            Check.due("20: muOfCuts(" + k + ", 0) from above", apart.muOfCuts(k, 0), 0);
            Check.due("20: muOfCuts(13, " + (k - 2) + ") of a line from above", line.muOfCuts(13, k - 2), 0);
        }
        Check.due("20: the last with the first", apart.muOfCuts(15, 0), 0);
    }

    private static void muOfCutsOfMostBetween() {
        OrderDesk apart = Desks.desk(MOST);
        Check.due("20: fourteen between nothing and all", apart.muOfCuts(0, 15), 13);
        for (int k = 1; k < 15; k++) {
            Check.due("20: nothing with one thing", apart.muOfCuts(0, k), -1);
            Check.due("20: one thing with all", apart.muOfCuts(k, 15), -1);
        }
        OrderDesk line = Desks.line(MOST);
        for (int k = 1; k < MOST; k++) {
            Check.due("20: muOfCuts(0, " + k + ") of a line", line.muOfCuts(0, k), k == 1 ? -1 : 0);
        }
        Check.due("20: all the crown's cuts between", Desks.crown().muOfCuts(0, 127), -1);
    }

    private static void muOfCutsWithoutSuchCuts() {
        for (OrderDesk desk : severalDesks()) {
            int many = desk.count(5);
            for (int k : Desks.notFrom0To(many)) {
                Check.due("20: muOfCuts(0, " + k + ") of " + many, desk.muOfCuts(0, k), 0);
                Check.due("20: muOfCuts(" + k + ", 0) of " + many, desk.muOfCuts(k, 0), 0);
                Check.due("20: muOfCuts(last, " + k + ") of " + many, desk.muOfCuts(many - 1, k), 0);
                Check.due("20: muOfCuts(" + k + ", last) of " + many, desk.muOfCuts(k, many - 1), 0);
                Check.due("20: muOfCuts(" + k + ", " + k + ") of " + many, desk.muOfCuts(k, k), 0);
            }
        }
    }
}
