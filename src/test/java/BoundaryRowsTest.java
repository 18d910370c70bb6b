/** Promises 11 to 15, the rows: one test for each sentence that names a boundary. */
public final class BoundaryRowsTest {
    private static final int NONE = OrderDesk.NONE;
    private static final int MOST = Desks.MOST;

    private BoundaryRowsTest() {
    }

    public static void main(String[] args) {
        rowsOfOneThing();
        rowsOfThingsApart();
        rowsOfALine();
        beforeOfTheSameThing();
        beforeWithoutSuchThings();
        beforeInAllRowsAndInNone();
        beforeOfThingsApart();
        placesOfOneThing();
        placesOfThingsApart();
        placesInALine();
        placesWithoutSuchPlace();
        placesWithoutSuchThing();
        rowOfOneThing();
        rowFirstAndLast();
        rowBehindTheLast();
        rowBelowZero();
        rowFarAbove();
        rankOfOneThing();
        rankFirstAndLast();
        rankOfARowThatEndsWithThing0();
        rankOfAThingTwice();
        rankOfAThingThatThereIsNot();
        rankOfAPlaceTooFew();
        rankOfAPlaceTooMany();
        rankBelowZero();
        rankAgainstTheOrder();
        Check.finish();
    }

    private static long upwards(int n) {
        int[] things = new int[n];
        for (int p = 0; p < n; p++) {
            things[p] = p;
        }
        return Desks.rowOf(things);
    }

    private static long downwards(int n) {
        int[] things = new int[n];
        for (int p = 0; p < n; p++) {
            things[p] = n - 1 - p;
        }
        return Desks.rowOf(things);
    }

    private static long withThing(long row, int place, int thing) {
        return row & ~(15L << (4 * place)) | (long) thing << (4 * place);
    }

    private static int thingAt(long row, int place) {
        return (int) (row >>> (4 * place)) & 15;
    }

    private static void rowsOfOneThing() {
        for (OrderDesk desk : Desks.withOneThing()) {
            Check.due("11: rows() of one thing", desk.rows(), 1);
        }
    }

    private static void rowsOfThingsApart() {
        for (int n = 1; n <= MOST; n++) {
            Check.due("11: rows() of " + n, Desks.desk(n).rows(), Desks.factorial(n));
            Check.due("11: rows() of " + n + " after a line", Desks.shrunkTo(n).rows(), Desks.factorial(n));
        }
        Check.due("11: rows() of 14 after one", Desks.grownToMost().rows(), 87178291200L);
    }

    private static void rowsOfALine() {
        for (int n = 1; n <= MOST; n++) {
            Check.due("11: rows() of a line of " + n, Desks.line(n).rows(), 1);
            Check.due("11: rows() of a line downwards of " + n, Desks.lineDownwards(n).rows(), 1);
        }
    }

    private static void beforeOfTheSameThing() {
        for (int n = 1; n <= MOST; n++) {
            OrderDesk apart = Desks.shrunkTo(n);
            OrderDesk line = Desks.line(n);
            for (int v = 0; v < n; v++) {
                Check.due("12: before(" + v + ", " + v + ") of " + n, apart.before(v, v), NONE);
                Check.due("12: before(" + v + ", " + v + ") of a line of " + n, line.before(v, v), NONE);
            }
        }
        Check.due("12: before(0, 0) of a new object", new OrderDesk().before(0, 0), NONE);
    }

    private static void beforeWithoutSuchThings() {
        for (int n = 1; n <= MOST; n++) {
            OrderDesk desk = Desks.shrunkTo(n);
            for (int v : Desks.notFrom0To(n)) {
                Check.due("12: before(0, " + v + ") of " + n, desk.before(0, v), NONE);
                Check.due("12: before(" + v + ", 0) of " + n, desk.before(v, 0), NONE);
                Check.due("12: before(" + (n - 1) + ", " + v + ") of " + n, desk.before(n - 1, v), NONE);
                Check.due("12: before(" + v + ", " + v + ") of " + n, desk.before(v, v), NONE);
                Check.due("12: before(" + v + ", -1) of " + n, desk.before(v, -1), NONE);
            }
        }
        Check.due("12: before(0, 1) of a new object", new OrderDesk().before(0, 1), NONE);
        Check.due("12: before(1, 0) of a new object", new OrderDesk().before(1, 0), NONE);
    }

    private static void beforeInAllRowsAndInNone() {
        OrderDesk line = Desks.line(MOST);
        for (int v = 1; v < MOST; v++) {
            Check.due("12: before(0, " + v + ") of a line", line.before(0, v), 1);
            Check.due("12: before(" + v + ", 0) of a line", line.before(v, 0), 0);
        }
        OrderDesk pair = Desks.desk(MOST, 13, 0);
        Check.due("12: before(13, 0) in all rows", pair.before(13, 0), 43589145600L);
        Check.due("12: before(0, 13) in no row", pair.before(0, 13), 0);
    }

    private static void beforeOfThingsApart() {
        for (int n = 2; n <= MOST; n++) {
            OrderDesk desk = Desks.desk(n);
            Check.due("12: before(0, last) of " + n, desk.before(0, n - 1), Desks.factorial(n) / 2);
            Check.due("12: before(last, 0) of " + n, desk.before(n - 1, 0), Desks.factorial(n) / 2);
        }
    }

    private static void placesOfOneThing() {
        for (OrderDesk desk : Desks.withOneThing()) {
            Check.due("13: places(0, 0) of one thing", desk.places(0, 0), 1);
            Check.due("13: places(0, 1) of one thing", desk.places(0, 1), NONE);
            Check.due("13: places(0, -1) of one thing", desk.places(0, -1), NONE);
            Check.due("13: places(1, 0) of one thing", desk.places(1, 0), NONE);
        }
    }

    private static void placesOfThingsApart() {
        for (int n = 1; n <= MOST; n++) {
            OrderDesk desk = Desks.desk(n);
            Check.due("13: the first place of " + n, desk.places(n - 1, 0), Desks.factorial(n - 1));
            Check.due("13: the last place of " + n, desk.places(0, n - 1), Desks.factorial(n - 1));
        }
    }

    private static void placesInALine() {
        OrderDesk desk = Desks.line(MOST);
        for (int v = 0; v < MOST; v++) {
            for (int place = 0; place < MOST; place++) {
                long due = v == place ? 1 : 0;
                Check.due("13: places(" + v + ", " + place + ") of a line", desk.places(v, place), due);
            }
        }
    }

    private static void placesWithoutSuchPlace() {
        for (int n = 1; n <= MOST; n++) {
            OrderDesk desk = Desks.shrunkTo(n);
            for (int place : Desks.notFrom0To(n)) {
                Check.due("13: places(0, " + place + ") of " + n, desk.places(0, place), NONE);
                Check.due("13: places(last, " + place + ") of " + n, desk.places(n - 1, place), NONE);
            }
        }
    }

    private static void placesWithoutSuchThing() {
        for (int n = 1; n <= MOST; n++) {
            OrderDesk desk = Desks.shrunkTo(n);
            for (int v : Desks.notFrom0To(n)) {
                Check.due("13: places(" + v + ", 0) of " + n, desk.places(v, 0), NONE);
                Check.due("13: places(" + v + ", last) of " + n, desk.places(v, n - 1), NONE);
                Check.due("13: places(" + v + ", " + v + ") of " + n, desk.places(v, v), NONE);
            }
        }
    }

    private static void rowOfOneThing() {
        for (OrderDesk desk : Desks.withOneThing()) {
            Check.due("14: row(0) of one thing", desk.row(0), 0);
            Check.due("14: row(1) of one thing", desk.row(1), NONE);
            Check.due("14: row(-1) of one thing", desk.row(-1), NONE);
        }
    }

    private static void rowFirstAndLast() {
        for (int n = 1; n <= MOST; n++) {
            OrderDesk desk = Desks.shrunkTo(n);
            Check.due("14: the first row of " + n, desk.row(0), upwards(n));
            Check.due("14: the last row of " + n, desk.row(Desks.factorial(n) - 1), downwards(n));
            Check.due("14: the row of a line of " + n, Desks.line(n).row(0), upwards(n));
            Check.due("14: the row of a line downwards of " + n, Desks.lineDownwards(n).row(0), downwards(n));
        }
        Check.due("14: fourteen from 0 up", Desks.grownToMost().row(0), 0xDCBA9876543210L);
    }

    private static void rowBehindTheLast() {
        for (int n = 1; n <= MOST; n++) {
            Check.due("14: behind the last row of " + n, Desks.desk(n).row(Desks.factorial(n)), NONE);
            Check.due("14: one further of " + n, Desks.desk(n).row(Desks.factorial(n) + 1), NONE);
            Check.due("14: behind the row of a line of " + n, Desks.line(n).row(1), NONE);
        }
        OrderDesk crown = Desks.crown();
        long rows = crown.rows();
        Check.due("14: the last row of the crown is one", crown.rank(crown.row(rows - 1)), rows - 1);
        Check.due("14: behind the last row of the crown", crown.row(rows), NONE);
    }

    private static void rowBelowZero() {
        for (int n = 1; n <= MOST; n++) {
            OrderDesk desk = Desks.shrunkTo(n);
            long all = Desks.factorial(n);
            for (long k : new long[] {-1, -2, -all, -1L << 32, Long.MIN_VALUE, Long.MIN_VALUE + 1}) {
                Check.due("14: row(" + k + ") of " + n, desk.row(k), NONE);
            }
        }
    }

    private static void rowFarAbove() {
        for (int n = 1; n <= MOST; n++) {
            OrderDesk desk = Desks.shrunkTo(n);
            long all = Desks.factorial(n);
            for (long k : new long[] {2 * all, all + (1L << 32), 1L << 40, 1L << 62, Long.MAX_VALUE}) {
                Check.due("14: row(" + k + ") of " + n, desk.row(k), NONE);
            }
        }
        Check.due("14: row(2^32) of 12, whose low half is 0", Desks.desk(12).row(1L << 32), NONE);
    }

    private static void rankOfOneThing() {
        for (OrderDesk desk : Desks.withOneThing()) {
            Check.due("15: rank(0) of one thing", desk.rank(0), 0);
            for (long row = 1; row <= 17; row++) {
                Check.due("15: rank(" + row + ") of one thing", desk.rank(row), NONE);
            }
        }
    }

    private static void rankFirstAndLast() {
        for (int n = 1; n <= MOST; n++) {
            OrderDesk desk = Desks.shrunkTo(n);
            Check.due("15: the first row of " + n, desk.rank(upwards(n)), 0);
            Check.due("15: the last row of " + n, desk.rank(downwards(n)), Desks.factorial(n) - 1);
            Check.due("15: the row of a line of " + n, Desks.line(n).rank(upwards(n)), 0);
            Check.due("15: of a line downwards of " + n, Desks.lineDownwards(n).rank(downwards(n)), 0);
        }
    }

    /** Thing 0 adds nothing to the number, wherever it stands. */
    private static void rankOfARowThatEndsWithThing0() {
        Check.due("15: 2, 1, 0 told as 0x12", Desks.desk(3).rank(0x12), 5);
        Check.due("15: 1, 2, 0 told as 0x21", Desks.desk(3).rank(0x21), 3);
        Check.due("15: 1, 0 told as 1", Desks.desk(2).rank(1), 1);
        Check.due("15: 0, 1 told as 16", Desks.desk(2).rank(16), 0);
    }

    private static void rankOfAThingTwice() {
        for (int n = 2; n <= MOST; n++) {
            OrderDesk desk = Desks.shrunkTo(n);
            for (int place = 1; place < n; place++) {
                long first = withThing(upwards(n), place, 0);
                long earlier = withThing(downwards(n), place, thingAt(downwards(n), place - 1));
                Check.due("15: thing 0 twice of " + n, desk.rank(first), NONE);
                Check.due("15: the one before twice of " + n, desk.rank(earlier), NONE);
            }
            Check.due("15: thing 0 only, of " + n, desk.rank(0), NONE);
        }
    }

    private static void rankOfAThingThatThereIsNot() {
        for (int n = 1; n <= MOST; n++) {
            OrderDesk desk = Desks.shrunkTo(n);
            for (int place = 0; place < n; place++) {
                for (int thing = n; thing <= 15; thing++) {
                    long row = withThing(upwards(n), place, thing);
                    Check.due("15: thing " + thing + " at " + place + " of " + n, desk.rank(row), NONE);
                }
            }
        }
    }

    private static void rankOfAPlaceTooFew() {
        for (int n = 2; n <= MOST; n++) {
            OrderDesk desk = Desks.shrunkTo(n);
            Check.due("15: a row of " + (n - 1) + " for " + n, desk.rank(upwards(n - 1)), NONE);
        }
    }

    private static void rankOfAPlaceTooMany() {
        for (int n = 1; n <= MOST; n++) {
            OrderDesk desk = Desks.shrunkTo(n);
            for (int bit = 4 * n; bit < 64; bit++) {
                Check.due("15: bit " + bit + " with " + n, desk.rank(upwards(n) | 1L << bit), NONE);
            }
            Check.due("15: a row of " + (n + 1) + " for " + n, desk.rank(upwards(n + 1)), NONE);
        }
    }

    private static void rankBelowZero() {
        for (int n = 1; n <= MOST; n++) {
            OrderDesk desk = Desks.shrunkTo(n);
            for (long row : new long[] {-1, -16, -upwards(n) - 1, ~upwards(n), Long.MIN_VALUE}) {
                Check.due("15: rank(" + row + ") of " + n, desk.rank(row), NONE);
            }
            Check.due("15: a row and the sign of " + n, desk.rank(upwards(n) | Long.MIN_VALUE), NONE);
            Check.due("15: a row and all above of " + n, desk.rank(upwards(n) | -1L << (4 * n)), NONE);
        }
    }

    private static void rankAgainstTheOrder() {
        OrderDesk line = Desks.line(MOST);
        for (int place = 1; place < MOST; place++) {
            long swapped = withThing(withThing(upwards(MOST), place, place - 1), place - 1, place);
            Check.due("15: " + place + " before " + (place - 1) + " of a line", line.rank(swapped), NONE);
        }
        Check.due("15: a line from above", line.rank(downwards(MOST)), NONE);
        OrderDesk pair = Desks.desk(MOST, 13, 0);
        Check.due("15: 0 before 13, which is below it", pair.rank(upwards(MOST)), NONE);
        Check.due("15: 13 before 0", pair.rank(downwards(MOST)), pair.rows() - 1);
    }
}
