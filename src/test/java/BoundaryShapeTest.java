/** Promises 7 to 10, chains and aparts: one test for each sentence that names a boundary. */
public final class BoundaryShapeTest {
    private static final int NONE = OrderDesk.NONE;
    private static final int MOST = Desks.MOST;

    private BoundaryShapeTest() {
    }

    public static void main(String[] args) {
        countOfOneThing();
        countOfMostThingsApart();
        countOfMostThingsInALine();
        countOfMostThingsInACrown();
        countOfOtherKinds();
        chainOfOneThing();
        chainOfMostThingsInALine();
        chainWhereNoneCompare();
        chainIndexBehindTheLast();
        chainIndexThatThereIsNot();
        chainOfSeveralTheFirst();
        apartOfOneThing();
        apartOfAllThings();
        apartOfALine();
        apartOfSeveralTheLeastNumber();
        nextOfOneThing();
        nextWhereNoneIsAbove();
        nextAlongALine();
        nextNoneIsGreaterThanAll();
        nextLeastFirstForTheLeastThing();
        nextWithoutSuchThing();
        Check.finish();
    }

    private static void checkCounts(String name, OrderDesk desk, int... due) {
        for (int what = 0; what < due.length; what++) {
            Check.due("7: count(" + what + ") of " + name, desk.count(what), due[what]);
        }
    }

    private static void countOfOneThing() {
        for (OrderDesk desk : Desks.withOneThing()) {
            checkCounts("one thing", desk, 1, 0, 1, 1, 2, 1);
        }
    }

    private static void countOfMostThingsApart() {
        checkCounts("14 that keep apart", Desks.desk(MOST), 14, 0, 1, 14, 16384, 16);
        checkCounts("14 after one", Desks.grownToMost(), 14, 0, 1, 14, 16384, 16);
        checkCounts("2 that keep apart", Desks.desk(2), 2, 0, 1, 2, 4, 4);
    }

    private static void countOfMostThingsInALine() {
        checkCounts("a line", Desks.line(MOST), 14, 91, 14, 1, 15, 14);
        checkCounts("a line downwards", Desks.lineDownwards(MOST), 14, 91, 14, 1, 15, 14);
        checkCounts("a line of two", Desks.line(2), 2, 1, 2, 1, 3, 2);
    }

    private static void countOfMostThingsInACrown() {
        // ideals: any of the lower seven with nothing, all but one with one more, all with any of the upper
        checkCounts("the crown", Desks.crown(), 14, 42, 2, 7, 127 + 7 + 128, 128);
    }

    private static void countOfOtherKinds() {
        OrderDesk[] desks = {
            new OrderDesk(), Desks.desk(MOST), Desks.line(MOST), Desks.crown(), Desks.letterN()
        };
        for (OrderDesk desk : desks) {
            for (int what : Desks.notFrom0To(6)) {
                Check.due("7: count(" + what + ")", desk.count(what), NONE);
            }
        }
    }

    private static void chainOfOneThing() {
        for (OrderDesk desk : Desks.withOneThing()) {
            Check.due("8: chain(0) of one thing", desk.chain(0), 0);
            Check.due("8: chain(1) of one thing", desk.chain(1), NONE);
        }
    }

    private static void chainOfMostThingsInALine() {
        OrderDesk upwards = Desks.line(MOST);
        OrderDesk downwards = Desks.lineDownwards(MOST);
        for (int i = 0; i < MOST; i++) {
            Check.due("8: chain(" + i + ") of a line", upwards.chain(i), i);
            Check.due("8: chain(" + i + ") of a line downwards", downwards.chain(i), 13 - i);
        }
        Check.due("8: chain(14) of a line", upwards.chain(14), NONE);
        Check.due("8: chain(14) of a line downwards", downwards.chain(14), NONE);
    }

    private static void chainWhereNoneCompare() {
        OrderDesk[] desks = {Desks.desk(MOST), Desks.grownToMost(), Desks.shrunkTo(5), Desks.desk(2)};
        for (OrderDesk desk : desks) {
            Check.due("8: chain(0) where none compare", desk.chain(0), 0);
            Check.due("8: chain(1) where none compare", desk.chain(1), NONE);
        }
    }

    private static void chainIndexBehindTheLast() {
        for (int n = 1; n <= MOST; n++) {
            OrderDesk desk = Desks.line(n);
            Check.due("8: the last one of " + n, desk.chain(n - 1), n - 1);
            Check.due("8: behind the last one of " + n, desk.chain(n), NONE);
        }
        OrderDesk shorter = Desks.line(MOST);
        shorter.chain(13);
        shorter.free(4);
        Check.due("8: the last one when one is freed", shorter.chain(12), 13);
        Check.due("8: behind it", shorter.chain(13), NONE);
    }

    private static void chainIndexThatThereIsNot() {
        for (int n = 1; n <= MOST; n++) {
            OrderDesk desk = Desks.line(n);
            for (int i : Desks.notFrom0To(n)) {
                Check.due("8: chain(" + i + ") of " + n, desk.chain(i), NONE);
            }
        }
    }

    private static void chainOfSeveralTheFirst() {
        OrderDesk pairs = Desks.desk(MOST, 12, 13, 2, 11, 3, 4, 10, 0);
        Check.due("8: of several the least lowest one", pairs.chain(0), 2);
        Check.due("8: and what is above it", pairs.chain(1), 11);
        OrderDesk fork = Desks.desk(MOST, 13, 12, 13, 5, 13, 9);
        Check.due("8: of one lowest one", fork.chain(0), 13);
        Check.due("8: the least above it", fork.chain(1), 5);
        Check.due("8: no more", fork.chain(2), NONE);
    }

    private static void apartOfOneThing() {
        for (OrderDesk desk : Desks.withOneThing()) {
            Check.due("9: apart() of one thing", desk.apart(), 1);
        }
    }

    private static void apartOfAllThings() {
        for (int n = 1; n <= MOST; n++) {
            Check.due("9: apart() of " + n, Desks.desk(n).apart(), (1 << n) - 1);
            Check.due("9: apart() of " + n + " after a line", Desks.shrunkTo(n).apart(), (1 << n) - 1);
        }
    }

    private static void apartOfALine() {
        for (int n = 1; n <= MOST; n++) {
            Check.due("9: apart() of a line of " + n, Desks.line(n).apart(), 1);
            Check.due("9: apart() of a line downwards of " + n, Desks.lineDownwards(n).apart(), 1);
        }
    }

    private static void apartOfSeveralTheLeastNumber() {
        Check.due("9: of the crown", Desks.crown().apart(), 127);
        OrderDesk doubled = Desks.desk(MOST);
        for (int v = 0; v < 7; v++) {
            doubled.put(13 - v, v);
        }
        Check.due("9: of seven pairs", doubled.apart(), 127);
        OrderDesk fan = Desks.desk(MOST);
        for (int v = 0; v < 13; v++) {
            fan.put(13, v);
        }
        Check.due("9: of all but the lowest one", fan.apart(), 8191);
        OrderDesk one = Desks.desk(MOST, 0, 13);
        Check.due("9: of one pair the lesser thing", one.apart(), 8191);
    }

    private static void nextOfOneThing() {
        for (OrderDesk desk : Desks.withOneThing()) {
            Check.due("10: next(0) of one thing", desk.next(0), NONE);
            Check.due("10: next(1) of one thing", desk.next(1), NONE);
        }
    }

    private static void nextWhereNoneIsAbove() {
        OrderDesk apart = Desks.grownToMost();
        for (int v = 0; v < MOST; v++) {
            Check.due("10: next(" + v + ") of 14 that keep apart", apart.next(v), NONE);
        }
        OrderDesk crown = Desks.crown();
        for (int v = 7; v < MOST; v++) {
            Check.due("10: next(" + v + ") of the crown's upper seven", crown.next(v), NONE);
        }
    }

    private static void nextAlongALine() {
        OrderDesk upwards = Desks.line(MOST);
        OrderDesk downwards = Desks.lineDownwards(MOST);
        for (int v = 0; v < MOST; v++) {
            Check.due("10: next(" + v + ") of a line", upwards.next(v), v < 13 ? v + 1 : NONE);
            Check.due("10: next(" + v + ") of a line downwards", downwards.next(v), v - 1);
        }
    }

    private static void nextNoneIsGreaterThanAll() {
        OrderDesk roof = Desks.desk(3, 0, 2, 1, 2);
        Check.due("10: 0 rather has one than none", roof.next(0), 2);
        Check.due("10: so 1 has none", roof.next(1), NONE);
        OrderDesk wide = Desks.desk(MOST);
        for (int v = 0; v < 13; v++) {
            wide.put(v, 13);
        }
        Check.due("10: the greatest thing is less than none", wide.next(0), 13);
        for (int v = 1; v < MOST; v++) {
            Check.due("10: so " + v + " has none", wide.next(v), NONE);
        }
    }

    private static void nextLeastFirstForTheLeastThing() {
        OrderDesk crown = Desks.crown();
        int[] due = {8, 7, 10, 9, 12, 13, 11};
        for (int v = 0; v < 7; v++) {
            Check.due("10: next(" + v + ") of the crown", crown.next(v), due[v]);
        }
    }

    private static void nextWithoutSuchThing() {
        for (int n = 1; n <= MOST; n++) {
            OrderDesk desk = Desks.shrunkTo(n);
            OrderDesk line = Desks.line(n);
            for (int v : Desks.notFrom0To(n)) {
                Check.due("10: next(" + v + ") of " + n, desk.next(v), NONE);
                Check.due("10: next(" + v + ") of a line of " + n, line.next(v), NONE);
            }
        }
    }
}
