/** Each promise of the document by its number: ordinary inputs, named edges, wrong inputs. */
public final class PromiseTest {
    private static final int NONE = OrderDesk.NONE;
    private static final int[] WRONG_NUMBERS = {
        Integer.MIN_VALUE, -100, -1, 14, 15, 16, 31, 32, 33, 100, Integer.MAX_VALUE
    };

    private PromiseTest() {
    }

    public static void main(String[] args) {
        promise01NewObject();
        promise02Begin();
        promise03Put();
        promise04Free();
        promise05IsBelow();
        promise06Covers();
        promise07Count();
        promise08Chain();
        promise09Apart();
        promise10Next();
        promise11Rows();
        promise12Before();
        promise13Places();
        promise14Row();
        promise15Rank();
        promise16Cut();
        promise17Least();
        promise18Joined();
        promise19Mu();
        promise20MuOfCuts();
        Check.finish();
    }

    private static void promise01NewObject() {
        OrderDesk desk = new OrderDesk();
        Check.due("1: NONE", NONE, -1);
        int[] counts = {1, 0, 1, 1, 2, 1};
        for (int what = 0; what < counts.length; what++) {
            Check.due("1: count(" + what + ")", new OrderDesk().count(what), counts[what]);
        }
        Check.due("1: isBelow(0, 0)", desk.isBelow(0, 0), false);
        Check.due("1: covers(0)", desk.covers(0), 0);
        Check.due("1: covers(1)", desk.covers(1), NONE);
        Check.due("1: chain(0)", desk.chain(0), 0);
        Check.due("1: apart()", desk.apart(), 1);
        Check.due("1: next(0)", desk.next(0), NONE);
        Check.due("1: rows()", desk.rows(), 1);
        Check.due("1: places(0, 0)", desk.places(0, 0), 1);
        Check.due("1: row(0)", desk.row(0), 0);
        Check.due("1: row(1)", desk.row(1), NONE);
        Check.due("1: rank(0)", desk.rank(0), 0);
        Check.due("1: rank(1)", desk.rank(1), NONE);
        Check.due("1: rank(16)", desk.rank(16), NONE);
        Check.due("1: cut(0)", desk.cut(0), 1);
        Check.due("1: cut(1)", desk.cut(1), NONE);
        Check.due("1: least(0)", desk.least(0), 0);
        Check.due("1: mu(0, 0)", desk.mu(0, 0), 1);
        Check.due("1: muOfCuts(0, 0)", desk.muOfCuts(0, 0), 1);
        Check.due("1: free(0)", desk.free(0), 0);
    }

    private static void promise02Begin() {
        OrderDesk desk = new OrderDesk();
        for (int n = 1; n <= 14; n++) {
            Check.due("2: begin(" + n + ")", desk.begin(n), n);
            Check.due("2: things of " + n, desk.count(0), n);
            Check.due("2: pairs of " + n, desk.count(1), 0);
            desk.put(0, n - 1);
        }
        int[] wrong = {Integer.MIN_VALUE, -1, 0, 15, 16, Integer.MAX_VALUE};
        for (int n : wrong) {
            Check.due("2: begin(" + n + ")", desk.begin(n), NONE);
            Check.due("2: things after begin(" + n + ")", desk.count(0), 14);
            Check.due("2: pairs after begin(" + n + ")", desk.count(1), 1);
            Check.due("2: isBelow(0, 13) after begin(" + n + ")", desk.isBelow(0, 13), true);
        }
        Check.due("2: rows before the order is told anew", desk.rows(), 43589145600L);
        Check.due("2: begin(14) again", desk.begin(14), 14);
        Check.due("2: rows of the new order", desk.rows(), 87178291200L);
        Check.due("2: begin(3) from 14", desk.begin(3), 3);
        Check.due("2: rows of 3", desk.rows(), 6);
        Check.due("2: cuts of 3", desk.count(5), 5);
        Check.due("2: apart of 3", desk.apart(), 7);
        Check.due("2: begin(14) from 3", desk.begin(14), 14);
        Check.due("2: nothing came back", desk.isBelow(0, 13), false);
        Check.due("2: ideals of 14", desk.count(4), 16384);
    }

    private static void promise03Put() {
        OrderDesk desk = Desks.desk(6);
        Check.due("3: put(0, 1)", desk.put(0, 1), 1);
        Check.due("3: put(0, 1) again", desk.put(0, 1), 0);
        Check.due("3: put(1, 0)", desk.put(1, 0), NONE);
        Check.due("3: put(0, 0)", desk.put(0, 0), NONE);
        Check.due("3: put(2, 3)", desk.put(2, 3), 1);
        Check.due("3: put(1, 2) joins two chains", desk.put(1, 2), 4);
        Check.due("3: put(0, 3) follows already", desk.put(0, 3), 0);
        Check.due("3: put(3, 0) goes round", desk.put(3, 0), NONE);
        Check.due("3: pairs", desk.count(1), 6);
        Check.due("3: put(4, 1)", desk.put(4, 1), 3);
        Check.due("3: put(2, 5)", desk.put(2, 5), 4);
        Check.due("3: pairs in the end", desk.count(1), 13);
        Check.due("3: isBelow(4, 5)", desk.isBelow(4, 5), true);
        for (int v : new int[] {Integer.MIN_VALUE, -1, 6, 7, 32, 38, Integer.MAX_VALUE}) {
            Check.due("3: put(" + v + ", 1)", desk.put(v, 1), NONE);
            Check.due("3: put(1, " + v + ")", desk.put(1, v), NONE);
            Check.due("3: put(" + v + ", " + v + ")", desk.put(v, v), NONE);
        }
        Check.due("3: wrong calls change nothing", desk.count(1), 13);
        OrderDesk backwards = Desks.desk(14);
        for (int v = 13; v > 0; v--) {
            Check.due("3: put(" + v + ", " + (v - 1) + ")", backwards.put(v, v - 1), 14 - v);
        }
        Check.due("3: pairs of a line", backwards.count(1), 91);
    }

    private static void promise04Free() {
        OrderDesk desk = Desks.line(5);
        Check.due("4: free(2)", desk.free(2), 4);
        Check.due("4: what followed over 2 stays", desk.isBelow(1, 3), true);
        Check.due("4: isBelow(1, 2)", desk.isBelow(1, 2), false);
        Check.due("4: isBelow(2, 3)", desk.isBelow(2, 3), false);
        Check.due("4: pairs", desk.count(1), 6);
        Check.due("4: covers(1)", desk.covers(1), 8);
        Check.due("4: covers(2)", desk.covers(2), 0);
        Check.due("4: free(2) again", desk.free(2), 0);
        Check.due("4: rows", desk.rows(), 5);
        Check.due("4: put(4, 2) can be now", desk.put(4, 2), 4);
        Check.due("4: free(0), the lowest one", desk.free(0), 4);
        Check.due("4: free(2), the highest one", desk.free(2), 3);
        for (int v : new int[] {Integer.MIN_VALUE, -1, 5, 14, 32, Integer.MAX_VALUE}) {
            Check.due("4: free(" + v + ")", desk.free(v), NONE);
        }
        Check.due("4: pairs in the end", desk.count(1), 3);
    }

    private static void promise05IsBelow() {
        OrderDesk desk = Desks.letterN();
        int[] above = {12, 8, 0, 0};
        for (int a = 0; a < 4; a++) {
            for (int b = 0; b < 4; b++) {
                Check.due("5: isBelow(" + a + ", " + b + ")", desk.isBelow(a, b), (above[a] >> b & 1) == 1);
            }
        }
        for (int v : WRONG_NUMBERS) {
            Check.due("5: isBelow(0, " + v + ")", desk.isBelow(0, v), false);
            Check.due("5: isBelow(" + v + ", 3)", desk.isBelow(v, 3), false);
        }
        Check.due("5: isBelow(0, 4)", desk.isBelow(0, 4), false);
        Check.due("5: isBelow(4, 3)", desk.isBelow(4, 3), false);
        OrderDesk shrunk = Desks.line(6);
        shrunk.begin(3);
        Check.due("5: isBelow(0, 5) of things gone", shrunk.isBelow(0, 5), false);
    }

    private static void promise06Covers() {
        OrderDesk desk = Desks.pentagon();
        int[] covers = {0, 1, 1, 4, 10};
        for (int v = 0; v < 5; v++) {
            Check.due("6: covers(" + v + ")", desk.covers(v), covers[v]);
        }
        for (int v : WRONG_NUMBERS) {
            Check.due("6: covers(" + v + ")", desk.covers(v), NONE);
        }
        Check.due("6: covers(5)", desk.covers(5), NONE);
        OrderDesk shortcut = Desks.desk(3, 0, 2, 0, 1, 1, 2);
        Check.due("6: a pair told is no cover if one comes between", shortcut.covers(0), 2);
        Check.due("6: covers of the lowest of 14", Desks.line(14).covers(0), 2);
    }

    private static void promise07Count() {
        int[] ofPentagon = {5, 8, 4, 2, 8, 5};
        int[] ofN = {4, 3, 2, 2, 8, 6};
        int[] ofLine = {14, 91, 14, 1, 15, 14};
        for (int what = 0; what < 6; what++) {
            int got = Desks.pentagon().count(what);
            Check.due("7: count(" + what + ") of the pentagon", got, ofPentagon[what]);
            Check.due("7: count(" + what + ") of the N", Desks.letterN().count(what), ofN[what]);
            Check.due("7: count(" + what + ") of the line", Desks.line(14).count(what), ofLine[what]);
        }
        for (int what : new int[] {Integer.MIN_VALUE, -1, 6, 7, 100, Integer.MAX_VALUE}) {
            Check.due("7: count(" + what + ")", Desks.pentagon().count(what), NONE);
        }
        OrderDesk desk = Desks.desk(3);
        Check.due("7: cuts before a change", desk.count(5), 5);
        Check.due("7: ideals before a change", desk.count(4), 8);
        desk.put(2, 1);
        Check.due("7: cuts after a change", desk.count(5), 5);
        desk.put(2, 0);
        Check.due("7: cuts after one more", desk.count(5), 4);
        desk.free(0);
        Check.due("7: ideals after a change", desk.count(4), 6);
        Check.due("7: the chain after a change", desk.count(2), 2);
        Check.due("7: the apart after a change", desk.count(3), 2);
    }

    private static void promise08Chain() {
        OrderDesk desk = Desks.pentagon();
        int[] things = {4, 3, 2, 0};
        for (int i = 0; i < things.length; i++) {
            Check.due("8: chain(" + i + ")", desk.chain(i), things[i]);
        }
        Check.due("8: chain(4)", desk.chain(4), NONE);
        for (int i : WRONG_NUMBERS) {
            Check.due("8: chain(" + i + ")", desk.chain(i), NONE);
        }
        OrderDesk lowestDecides = Desks.desk(6, 1, 5, 5, 4, 2, 0, 0, 3);
        Check.due("8: the lowest thing decides first", lowestDecides.chain(0), 1);
        Check.due("8: then the one over it", lowestDecides.chain(1), 5);
        OrderDesk secondDecides = Desks.desk(5, 4, 3, 4, 1, 3, 0, 1, 2);
        Check.due("8: of one lowest thing the lesser next", secondDecides.chain(1), 1);
        Check.due("8: and what is over that", secondDecides.chain(2), 2);
        OrderDesk shortFirst = Desks.desk(4, 0, 3, 1, 2, 2, 3);
        Check.due("8: length goes before numbers", shortFirst.chain(0), 1);
        OrderDesk deadEnd = Desks.desk(5, 0, 1, 0, 2, 2, 3, 4, 1);
        Check.due("8: a lesser thing that leads nowhere is passed by", deadEnd.chain(1), 2);
        Check.due("8: all 14 in the chain", Desks.line(14).chain(13), 13);
    }

    private static void promise09Apart() {
        Check.due("9: of the pentagon", Desks.pentagon().apart(), 6);
        Check.due("9: of the N", Desks.letterN().apart(), 3);
        Check.due("9: of a line", Desks.line(14).apart(), 1);
        Check.due("9: of 14 that keep apart", Desks.desk(14).apart(), 16383);
        OrderDesk twoApart = Desks.desk(4, 0, 1, 0, 2, 3, 1, 3, 2);
        Check.due("9: the least number, not the first in writing", twoApart.apart(), 6);
        Check.due("9: without the greatest things", Desks.desk(6, 3, 0, 4, 1, 5, 2).apart(), 7);
        OrderDesk desk = Desks.desk(3, 0, 1);
        Check.due("9: before a change", desk.apart(), 5);
        desk.free(0);
        Check.due("9: after a change", desk.apart(), 7);
    }

    private static void promise10Next() {
        OrderDesk desk = Desks.pentagon();
        int[] nexts = {NONE, 0, NONE, 2, 1};
        for (int v = 0; v < 5; v++) {
            Check.due("10: next(" + v + ")", desk.next(v), nexts[v]);
        }
        for (int v : WRONG_NUMBERS) {
            Check.due("10: next(" + v + ")", desk.next(v), NONE);
        }
        Check.due("10: next(5)", desk.next(5), NONE);
        OrderDesk mustYield = Desks.letterN();
        Check.due("10: 0 has 2, as 1 needs 3", mustYield.next(0), 2);
        Check.due("10: 1 has 3", mustYield.next(1), 3);
        OrderDesk yields = Desks.desk(4, 0, 2, 0, 3, 1, 2);
        Check.due("10: 0 leaves 2 to 1", yields.next(0), 3);
        Check.due("10: 1 has 2", yields.next(1), 2);
        OrderDesk skips = Desks.desk(3, 0, 2, 2, 1);
        Check.due("10: fewer chains go before a lesser next one", skips.next(0), 2);
        OrderDesk passesBy = Desks.desk(4, 2, 0, 2, 1, 3, 0, 3, 1);
        Check.due("10: 2 has the least", passesBy.next(2), 0);
        Check.due("10: 3 has what remains", passesBy.next(3), 1);
        OrderDesk over = Desks.desk(5, 0, 3, 3, 1, 2, 3, 3, 4);
        Check.due("10: a next one need not cover", over.next(0), 1);
        Check.due("10: the other one goes through 3", over.next(2), 3);
        Check.due("10: and on", over.next(3), 4);
    }

    private static void promise11Rows() {
        Check.due("11: of the pentagon", Desks.pentagon().rows(), 3);
        Check.due("11: of the N", Desks.letterN().rows(), 5);
        Check.due("11: of a line", Desks.line(14).rows(), 1);
        long factorial = 1;
        for (int n = 1; n <= 14; n++) {
            factorial *= n;
            Check.due("11: of " + n + " that keep apart", Desks.desk(n).rows(), factorial);
        }
        OrderDesk desk = Desks.desk(4);
        Check.due("11: before a change", desk.rows(), 24);
        desk.put(3, 0);
        Check.due("11: after a put", desk.rows(), 12);
        desk.free(3);
        Check.due("11: after a free", desk.rows(), 24);
        OrderDesk twoLines = Desks.desk(14);
        for (int v = 0; v < 12; v++) {
            twoLines.put(v, v + 2);
        }
        Check.due("11: of two lines of seven", twoLines.rows(), 3432);
    }

    private static void promise12Before() {
        OrderDesk desk = Desks.letterN();
        long[][] due = {
            {NONE, 3, 5, 5}, {2, NONE, 4, 5}, {0, 1, NONE, 3}, {0, 0, 2, NONE}
        };
        for (int a = 0; a < 4; a++) {
            for (int b = 0; b < 4; b++) {
                Check.due("12: before(" + a + ", " + b + ")", desk.before(a, b), due[a][b]);
            }
        }
        for (int v : WRONG_NUMBERS) {
            Check.due("12: before(0, " + v + ")", desk.before(0, v), NONE);
            Check.due("12: before(" + v + ", 0)", desk.before(v, 0), NONE);
        }
        Check.due("12: before(4, 0)", desk.before(4, 0), NONE);
        Check.due("12: before(0, 4)", desk.before(0, 4), NONE);
        Check.due("12: half of all rows of 14", Desks.desk(14).before(13, 0), 43589145600L);
    }

    private static void promise13Places() {
        OrderDesk desk = Desks.letterN();
        long[][] due = {{3, 2, 0, 0}, {2, 2, 1, 0}, {0, 1, 2, 2}, {0, 0, 2, 3}};
        for (int v = 0; v < 4; v++) {
            for (int place = 0; place < 4; place++) {
                Check.due("13: places(" + v + ", " + place + ")", desk.places(v, place), due[v][place]);
            }
        }
        for (int wrong : WRONG_NUMBERS) {
            Check.due("13: places(0, " + wrong + ")", desk.places(0, wrong), NONE);
            Check.due("13: places(" + wrong + ", 0)", desk.places(wrong, 0), NONE);
        }
        Check.due("13: places(4, 0)", desk.places(4, 0), NONE);
        Check.due("13: places(0, 4)", desk.places(0, 4), NONE);
        Check.due("13: each place of 14 alike", Desks.desk(14).places(13, 13), 6227020800L);
    }

    private static final int[][] ROWS_OF_N = {
        {0, 1, 2, 3}, {0, 1, 3, 2}, {0, 2, 1, 3}, {1, 0, 2, 3}, {1, 0, 3, 2}
    };

    private static void promise14Row() {
        OrderDesk desk = Desks.letterN();
        for (int k = 0; k < ROWS_OF_N.length; k++) {
            Check.due("14: row(" + k + ")", desk.row(k), Desks.rowOf(ROWS_OF_N[k]));
        }
        for (long k : new long[] {Long.MIN_VALUE, -1, 5, 6, 4294967296L, Long.MAX_VALUE}) {
            Check.due("14: row(" + k + ")", desk.row(k), NONE);
        }
        OrderDesk all = Desks.desk(14);
        Check.due("14: the first row of 14", all.row(0), 0xDCBA9876543210L);
        Check.due("14: the last row of 14", all.row(87178291199L), 0x0123456789ABCDL);
        Check.due("14: none after it", all.row(87178291200L), NONE);
    }

    private static void promise15Rank() {
        OrderDesk desk = Desks.letterN();
        for (int k = 0; k < ROWS_OF_N.length; k++) {
            Check.due("15: rank of row " + k, desk.rank(Desks.rowOf(ROWS_OF_N[k])), k);
        }
        Check.due("15: a thing before what is below it", desk.rank(Desks.rowOf(2, 0, 1, 3)), NONE);
        Check.due("15: a thing twice", desk.rank(Desks.rowOf(0, 1, 2, 2)), NONE);
        Check.due("15: a thing that there is not", desk.rank(Desks.rowOf(0, 1, 2, 4)), NONE);
        Check.due("15: the last thing left out", desk.rank(Desks.rowOf(0, 1, 2)), NONE);
        Check.due("15: a place too many", desk.rank(Desks.rowOf(0, 1, 2, 3, 1)), NONE);
        Check.due("15: a bit far up", desk.rank(Desks.rowOf(0, 1, 2, 3) | 1L << 62), NONE);
        Check.due("15: the sign", desk.rank(Desks.rowOf(0, 1, 2, 3) | Long.MIN_VALUE), NONE);
        Check.due("15: 0", desk.rank(0), NONE);
        Check.due("15: -1", desk.rank(-1), NONE);
        OrderDesk all = Desks.desk(14);
        Check.due("15: the last row of 14", all.rank(0x0123456789ABCDL), 87178291199L);
        Check.due("15: a place too many behind 14", all.rank(0x0123456789ABCDL | 1L << 56), NONE);
        Check.due("15: the sign behind 14", all.rank(0x0123456789ABCDL | Long.MIN_VALUE), NONE);
        Check.due("15: thing 14 of 14", all.rank(0x0123456789ABCEL), NONE);
    }

    private static void promise16Cut() {
        int[] ofN = {0, 1, 2, 5, 11, 15};
        OrderDesk desk = Desks.letterN();
        for (int k = 0; k < ofN.length; k++) {
            Check.due("16: cut(" + k + ") of the N", desk.cut(k), ofN[k]);
        }
        Check.due("16: cut(6) of the N", desk.cut(6), NONE);
        int[] ofPentagon = {16, 18, 24, 28, 31};
        OrderDesk five = Desks.pentagon();
        for (int k = 0; k < ofPentagon.length; k++) {
            Check.due("16: cut(" + k + ") of the pentagon", five.cut(k), ofPentagon[k]);
        }
        Check.due("16: cut(5) of the pentagon", five.cut(5), NONE);
        for (int k : new int[] {Integer.MIN_VALUE, -1, 8, 16384, Integer.MAX_VALUE}) {
            Check.due("16: cut(" + k + ")", desk.cut(k), NONE);
        }
        OrderDesk apart = Desks.desk(14);
        Check.due("16: nothing is a cut of 14 that keep apart", apart.cut(0), 0);
        Check.due("16: cut(14)", apart.cut(14), 8192);
        Check.due("16: all are a cut", apart.cut(15), 16383);
    }

    private static void promise17Least() {
        OrderDesk desk = Desks.letterN();
        int[] due = {0, 1, 2, 4, 3, 3, 5, 5, 4, 4, 4, 4, 5, 5, 5, 5};
        for (int set = 0; set < due.length; set++) {
            Check.due("17: least(" + set + ")", desk.least(set), due[set]);
        }
        for (int set : new int[] {Integer.MIN_VALUE, -1, 16, 17, 31, 32768, Integer.MAX_VALUE}) {
            Check.due("17: least(" + set + ")", desk.least(set), NONE);
        }
        Check.due("17: the lowest thing is in each cut", Desks.pentagon().least(0), 0);
        Check.due("17: least(16383) of 14", Desks.desk(14).least(16383), 15);
        Check.due("17: least(16384) of 14", Desks.desk(14).least(16384), NONE);
    }

    private static void promise18Joined() {
        OrderDesk desk = Desks.letterN();
        Check.due("18: join of {0} and {1}", desk.joined(1, 2, false), 4);
        Check.due("18: meet of {0} and {1}", desk.joined(1, 2, true), 0);
        Check.due("18: join of {1} and {0, 2}", desk.joined(2, 3, false), 5);
        Check.due("18: meet of {0, 2} and {0, 1, 3}", desk.joined(3, 4, true), 1);
        Check.due("18: join of one with itself", desk.joined(4, 4, false), 4);
        Check.due("18: meet of one with itself", desk.joined(4, 4, true), 4);
        Check.due("18: join of one under the other", desk.joined(1, 4, false), 4);
        Check.due("18: meet of one under the other", desk.joined(4, 1, true), 1);
        for (int k : new int[] {Integer.MIN_VALUE, -1, 6, 100, Integer.MAX_VALUE}) {
            Check.due("18: joined(" + k + ", 0, false)", desk.joined(k, 0, false), NONE);
            Check.due("18: joined(0, " + k + ", false)", desk.joined(0, k, false), NONE);
            Check.due("18: joined(" + k + ", 0, true)", desk.joined(k, 0, true), NONE);
            Check.due("18: joined(0, " + k + ", true)", desk.joined(0, k, true), NONE);
        }
    }

    private static void promise19Mu() {
        OrderDesk desk = Desks.pentagon();
        int[][] due = {
            {1, 0, 0, 0, 0}, {-1, 1, 0, 0, 0}, {-1, 0, 1, 0, 0}, {0, 0, -1, 1, 0}, {1, -1, 0, -1, 1}
        };
        for (int a = 0; a < 5; a++) {
            for (int b = 0; b < 5; b++) {
                Check.due("19: mu(" + a + ", " + b + ")", desk.mu(a, b), due[a][b]);
            }
        }
        for (int v : WRONG_NUMBERS) {
            Check.due("19: mu(0, " + v + ")", desk.mu(0, v), 0);
            Check.due("19: mu(" + v + ", 0)", desk.mu(v, 0), 0);
            Check.due("19: mu(" + v + ", " + v + ")", desk.mu(v, v), 0);
        }
        Check.due("19: mu(5, 5)", desk.mu(5, 5), 0);
        OrderDesk fan = Desks.desk(14);
        for (int v = 1; v < 13; v++) {
            fan.put(13, v);
            fan.put(v, 0);
        }
        Check.due("19: twelve between", fan.mu(13, 0), 11);
        OrderDesk levels = Desks.desk(14);
        for (int a = 1; a < 13; a++) {
            levels.put(0, a);
            levels.put(a, 13);
            for (int b = (a - 1) / 3 * 3 + 4; b < 13; b++) {
                levels.put(a, b);
            }
        }
        Check.due("19: four levels of three between", levels.mu(0, 13), -16);
    }

    private static void promise20MuOfCuts() {
        OrderDesk desk = Desks.letterN();
        Check.due("20: of one with itself", desk.muOfCuts(3, 3), 1);
        Check.due("20: of one with the next over it", desk.muOfCuts(0, 1), -1);
        Check.due("20: of nothing with {0, 1, 3}", desk.muOfCuts(0, 4), 1);
        Check.due("20: of nothing with {0, 2}", desk.muOfCuts(0, 3), 0);
        Check.due("20: of {0} with all", desk.muOfCuts(1, 5), 1);
        Check.due("20: of {1} with all", desk.muOfCuts(2, 5), 0);
        Check.due("20: of nothing with all", desk.muOfCuts(0, 5), 0);
        Check.due("20: not under, by number before", desk.muOfCuts(2, 3), 0);
        Check.due("20: downwards", desk.muOfCuts(5, 0), 0);
        for (int k : new int[] {Integer.MIN_VALUE, -1, 6, 100, Integer.MAX_VALUE}) {
            Check.due("20: muOfCuts(" + k + ", 0)", desk.muOfCuts(k, 0), 0);
            Check.due("20: muOfCuts(0, " + k + ")", desk.muOfCuts(0, k), 0);
            Check.due("20: muOfCuts(" + k + ", " + k + ")", desk.muOfCuts(k, k), 0);
        }
        OrderDesk apart = Desks.desk(14);
        Check.due("20: fourteen between", apart.muOfCuts(0, 15), 13);
    }
}
