/** Promises 1 to 6, and the bound of 512 calls: one test for each sentence that names a boundary. */
public final class BoundaryOrderTest {
    private static final int NONE = OrderDesk.NONE;
    private static final int MOST = Desks.MOST;
    private static final int[] NO_NUMBERS_OF_THINGS = {
        Integer.MIN_VALUE, Integer.MIN_VALUE + 1, -256 + 3, -14, -1, 0, 15, 16, 17, 32, 33, 46, 256 + 3,
        65536 + 3, Integer.MAX_VALUE
    };

    private BoundaryOrderTest() {
    }

    public static void main(String[] args) {
        newObjectHasOneThing();
        newObjectHasNoOtherThing();
        beginWithFewestAndMost();
        beginForgetsAllPairs();
        beginRefusedChangesNothing();
        putWithoutSuchThings();
        putOfTheSameThing();
        putWhereTheOtherIsBelow();
        putOfAPairThatHolds();
        putInTheFullestOrder();
        putOfTheMostPairsAtOnce();
        putRefusedCanBeTakenUpLater();
        freeOfAThingWithoutPairs();
        freeOfAThingThatHasAllPairs();
        freeWithoutSuchThing();
        isBelowWithoutSuchThings();
        isBelowOfTheSameThing();
        isBelowTheOtherWayRound();
        coversWhereNothingDoes();
        coversWhereAllOthersDo();
        coversWithoutSuchThing();
        lastOf512CallsIsAnswered();
        Check.finish();
    }

    /** An order in which each kind of answer is of some size, so that a change would show. */
    private static OrderDesk richOrder(int n) {
        OrderDesk desk = Desks.desk(n);
        for (int v = 0; v + 2 < n; v++) {
            desk.put(v + 2, v % 3 == 0 ? v + 1 : v);
        }
        return desk;
    }

    private static void newObjectHasOneThing() {
        for (OrderDesk desk : Desks.withOneThing()) {
            Check.due("1: count(0)", desk.count(0), 1);
            Check.due("1: count(1)", desk.count(1), 0);
            Check.due("1: rows()", desk.rows(), 1);
            Check.same("1: a new object is as begin(1)", Desks.stateOf(desk), Desks.stateOf(new OrderDesk()));
        }
    }

    private static void newObjectHasNoOtherThing() {
        for (int v : Desks.notFrom0To(1)) {
            Check.due("1: covers(" + v + ")", new OrderDesk().covers(v), NONE);
            Check.due("1: put(0, " + v + ")", new OrderDesk().put(0, v), NONE);
            Check.due("1: put(" + v + ", 0)", new OrderDesk().put(v, 0), NONE);
            Check.due("1: free(" + v + ")", new OrderDesk().free(v), NONE);
        }
    }

    private static void beginWithFewestAndMost() {
        OrderDesk desk = new OrderDesk();
        for (int n : new int[] {1, 14, 1, 2, 13, 14, 14, 1, 1}) {
            Check.due("2: begin(" + n + ")", desk.begin(n), n);
            Check.due("2: things after begin(" + n + ")", desk.count(0), n);
            Check.due("2: covers of the last one of " + n, desk.covers(n - 1), 0);
            Check.due("2: covers behind the last one of " + n, desk.covers(n), NONE);
        }
    }

    private static void beginForgetsAllPairs() {
        for (int n = 1; n <= MOST; n++) {
            OrderDesk desk = Desks.line(MOST);
            Desks.stateOf(desk);
            desk.begin(n);
            Check.due("2: pairs after begin(" + n + ")", desk.count(1), 0);
            Check.due("2: rows after begin(" + n + ")", desk.rows(), Desks.factorial(n));
            desk.begin(MOST);
            Check.due("2: pairs after begin(" + n + ") and begin(14)", desk.count(1), 0);
            Check.due("2: rows after begin(" + n + ") and begin(14)", desk.rows(), Desks.factorial(MOST));
        }
    }

    private static void beginRefusedChangesNothing() {
        for (int n = 1; n <= MOST; n++) {
            OrderDesk desk = richOrder(n);
            long[] state = Desks.stateOf(desk);
            for (int wrong : NO_NUMBERS_OF_THINGS) {
                Check.due("2: begin(" + wrong + ") with " + n + " things", desk.begin(wrong), NONE);
                Check.due("2: things after begin(" + wrong + ")", desk.count(0), n);
                Check.due("2: pairs after begin(" + wrong + ")", desk.count(1), state[1]);
            }
            Check.same("2: all " + n + " things after refused calls", Desks.stateOf(desk), state);
        }
        for (int wrong : NO_NUMBERS_OF_THINGS) {
            OrderDesk desk = new OrderDesk();
            Check.due("2: begin(" + wrong + ") of a new object", desk.begin(wrong), NONE);
            Check.due("2: things of it", desk.count(0), 1);
        }
    }

    private static void putWithoutSuchThings() {
        for (int n = 1; n <= MOST; n++) {
            OrderDesk desk = richOrder(n);
            long[] state = Desks.stateOf(desk);
            for (int v : Desks.notFrom0To(n)) {
                Check.due("3: put(0, " + v + ") of " + n, desk.put(0, v), NONE);
                Check.due("3: put(" + v + ", 0) of " + n, desk.put(v, 0), NONE);
                Check.due("3: put(" + (n - 1) + ", " + v + ") of " + n, desk.put(n - 1, v), NONE);
                Check.due("3: put(" + v + ", " + (n - 1) + ") of " + n, desk.put(v, n - 1), NONE);
                Check.due("3: put(" + v + ", " + v + ") of " + n, desk.put(v, v), NONE);
                Check.due("3: put(" + v + ", -1) of " + n, desk.put(v, -1), NONE);
                Check.due("3: put(" + n + ", " + v + ") of " + n, desk.put(n, v), NONE);
            }
            Check.same("3: all " + n + " things after refused calls", Desks.stateOf(desk), state);
        }
    }

    private static void putOfTheSameThing() {
        for (int n = 1; n <= MOST; n++) {
            OrderDesk desk = richOrder(n);
            long[] state = Desks.stateOf(desk);
            for (int v = 0; v < n; v++) {
                Check.due("3: put(" + v + ", " + v + ") of " + n, desk.put(v, v), NONE);
            }
            Check.same("3: all " + n + " things after refused calls", Desks.stateOf(desk), state);
        }
        for (OrderDesk desk : Desks.withOneThing()) {
            Check.due("3: put(0, 0) of one thing", desk.put(0, 0), NONE);
            Check.due("3: nothing came", desk.count(1), 0);
        }
    }

    private static void putWhereTheOtherIsBelow() {
        OrderDesk two = Desks.desk(2, 0, 1);
        Check.due("3: put(1, 0), as told", two.put(1, 0), NONE);
        Check.due("3: 1 is not below 0", two.isBelow(1, 0), false);
        Check.due("3: 0 is below 1 yet", two.isBelow(0, 1), true);
        OrderDesk three = Desks.desk(3, 2, 1, 1, 0);
        Check.due("3: put(0, 2), as it follows", three.put(0, 2), NONE);
        Check.due("3: 0 is not below 2", three.isBelow(0, 2), false);
        Check.due("3: pairs", three.count(1), 3);
    }

    private static void putOfAPairThatHolds() {
        OrderDesk two = Desks.desk(2, 1, 0);
        Check.due("3: put(1, 0), as told", two.put(1, 0), 0);
        Check.due("3: pairs", two.count(1), 1);
        OrderDesk three = Desks.desk(3, 0, 1, 1, 2);
        long[] state = Desks.stateOf(three);
        Check.due("3: put(0, 2), as it follows", three.put(0, 2), 0);
        Check.same("3: nothing came", Desks.stateOf(three), state);
        three.free(1);
        Check.due("3: put(0, 2), as it stayed", three.put(0, 2), 0);
    }

    private static void putInTheFullestOrder() {
        OrderDesk desk = Desks.line(MOST);
        for (int a = 0; a < MOST; a++) {
            for (int b = 0; b < MOST; b++) {
                Check.due("3: put(" + a + ", " + b + ") of a line", desk.put(a, b), a < b ? 0 : NONE);
            }
        }
        Check.same("3: the line", Desks.stateOf(desk), Desks.stateOf(Desks.line(MOST)));
    }

    private static void putOfTheMostPairsAtOnce() {
        OrderDesk desk = Desks.desk(MOST);
        for (int v = 1; v < MOST; v++) {
            if (v != 7) {
                desk.put(v - 1, v);
            }
        }
        Check.due("3: pairs of two lines of seven", desk.count(1), 42);
        Check.due("3: put(6, 7) joins them", desk.put(6, 7), 49);
        Check.due("3: pairs of one line", desk.count(1), 91);
    }

    private static void putRefusedCanBeTakenUpLater() {
        OrderDesk desk = Desks.desk(MOST, 0, 13);
        Check.due("3: put(13, 0)", desk.put(13, 0), NONE);
        Check.due("3: free(0)", desk.free(0), 1);
        Check.due("3: put(13, 0) when it can be", desk.put(13, 0), 1);
        Check.due("3: put(0, 13) can't be then", desk.put(0, 13), NONE);
    }

    private static void freeOfAThingWithoutPairs() {
        for (OrderDesk desk : Desks.withOneThing()) {
            Check.due("4: free(0) of one thing", desk.free(0), 0);
            Check.due("4: one thing yet", desk.count(0), 1);
        }
        OrderDesk apart = Desks.desk(MOST);
        long[] state = Desks.stateOf(apart);
        for (int v = 0; v < MOST; v++) {
            Check.due("4: free(" + v + ") of 14 that keep apart", apart.free(v), 0);
        }
        Check.same("4: they keep apart yet", Desks.stateOf(apart), state);
        OrderDesk besides = Desks.desk(3, 0, 2);
        Check.due("4: free(1) beside a pair", besides.free(1), 0);
        Check.due("4: the pair stays", besides.isBelow(0, 2), true);
    }

    private static void freeOfAThingThatHasAllPairs() {
        for (int v = 0; v < MOST; v++) {
            OrderDesk desk = Desks.line(MOST);
            Check.due("4: free(" + v + ") of a line", desk.free(v), 13);
            Check.due("4: pairs without it", desk.count(1), 78);
            Check.due("4: covers(" + v + ")", desk.covers(v), 0);
            Check.due("4: free(" + v + ") again", desk.free(v), 0);
        }
        OrderDesk all = Desks.line(MOST);
        for (int v = 0; v < MOST; v++) {
            Check.due("4: free(" + v + ") of what is left of a line", all.free(v), 13 - v);
        }
        Check.due("4: no pair is left", all.count(1), 0);
    }

    private static void freeWithoutSuchThing() {
        for (int n = 1; n <= MOST; n++) {
            OrderDesk desk = richOrder(n);
            long[] state = Desks.stateOf(desk);
            for (int v : Desks.notFrom0To(n)) {
                Check.due("4: free(" + v + ") of " + n, desk.free(v), NONE);
            }
            Check.same("4: all " + n + " things after refused calls", Desks.stateOf(desk), state);
        }
    }

    private static void isBelowWithoutSuchThings() {
        for (int n = 1; n <= MOST; n++) {
            OrderDesk desk = Desks.line(MOST);
            desk.begin(n);
            for (int v : Desks.notFrom0To(n)) {
                Check.due("5: isBelow(0, " + v + ") of " + n, desk.isBelow(0, v), false);
                Check.due("5: isBelow(" + v + ", " + (n - 1) + ") of " + n, desk.isBelow(v, n - 1), false);
                Check.due("5: isBelow(" + v + ", " + v + ") of " + n, desk.isBelow(v, v), false);
                Check.due("5: isBelow(-1, " + v + ") of " + n, desk.isBelow(-1, v), false);
            }
        }
        OrderDesk line = Desks.line(MOST);
        for (int v : Desks.notFrom0To(MOST)) {
            Check.due("5: isBelow(0, " + v + ") of a line", line.isBelow(0, v), false);
            Check.due("5: isBelow(" + v + ", 13) of a line", line.isBelow(v, 13), false);
        }
    }

    private static void isBelowOfTheSameThing() {
        for (OrderDesk desk : Desks.withOneThing()) {
            Check.due("5: isBelow(0, 0) of one thing", desk.isBelow(0, 0), false);
        }
        OrderDesk line = Desks.line(MOST);
        for (int v = 0; v < MOST; v++) {
            Check.due("5: isBelow(" + v + ", " + v + ") of a line", line.isBelow(v, v), false);
        }
    }

    private static void isBelowTheOtherWayRound() {
        OrderDesk line = Desks.line(MOST);
        Check.due("5: isBelow(0, 13)", line.isBelow(0, 13), true);
        Check.due("5: isBelow(13, 0)", line.isBelow(13, 0), false);
        Check.due("5: isBelow(12, 13)", line.isBelow(12, 13), true);
        Check.due("5: isBelow(13, 12)", line.isBelow(13, 12), false);
    }

    private static void coversWhereNothingDoes() {
        for (OrderDesk desk : Desks.withOneThing()) {
            Check.due("6: covers(0) of one thing", desk.covers(0), 0);
        }
        OrderDesk apart = Desks.grownToMost();
        for (int v = 0; v < MOST; v++) {
            Check.due("6: covers(" + v + ") of 14 that keep apart", apart.covers(v), 0);
        }
        Check.due("6: covers of the highest one", Desks.line(MOST).covers(13), 0);
    }

    private static void coversWhereAllOthersDo() {
        OrderDesk fan = Desks.desk(MOST);
        for (int v = 1; v < MOST; v++) {
            fan.put(0, v);
        }
        Check.due("6: covers(0) below all others", fan.covers(0), 16382);
        OrderDesk line = Desks.line(MOST);
        for (int v = 0; v < MOST - 1; v++) {
            Check.due("6: covers(" + v + ") of a line", line.covers(v), 2 << v);
        }
    }

    private static void coversWithoutSuchThing() {
        for (int n = 1; n <= MOST; n++) {
            OrderDesk desk = Desks.shrunkTo(n);
            for (int v : Desks.notFrom0To(n)) {
                Check.due("6: covers(" + v + ") of " + n, desk.covers(v), NONE);
            }
        }
    }

    private static void lastOf512CallsIsAnswered() {
        OrderDesk desk = new OrderDesk();
        long all = Desks.factorial(MOST);
        Check.due("call 1: begin(14)", desk.begin(MOST), MOST);
        for (int call = 2; call <= 510; call += 4) {
            int low = call % 13;
            Check.due("call " + call + ": put", desk.put(low, 13), 1);
            Check.due("call " + (call + 1) + ": rows()", desk.rows(), all / 2);
            Check.due("call " + (call + 2) + ": free", desk.free(13), 1);
            if (call + 3 <= 512) {
                Check.due("call " + (call + 3) + ": row", desk.row(all - 1), 0x0123456789ABCDL);
            }
        }
    }
}
