/** Orders that several tests use, and wrong numbers to ask them with. */
final class Desks {
    static final int MOST = 14;

    private Desks() {
    }

    static OrderDesk desk(int n, int... pairs) {
        OrderDesk desk = new OrderDesk();
        desk.begin(n);
        for (int i = 0; i + 1 < pairs.length; i += 2) {
            desk.put(pairs[i], pairs[i + 1]);
        }
        return desk;
    }

    /** 4 below 1 below 0, and 4 below 3 below 2 below 0: a pentagon told against its numbers. */
    static OrderDesk pentagon() {
        return desk(5, 4, 1, 1, 0, 4, 3, 3, 2, 2, 0);
    }

    /** 0 below 2 and 3, 1 below 3: the letter N. */
    static OrderDesk letterN() {
        return desk(4, 0, 2, 0, 3, 1, 3);
    }

    static OrderDesk line(int n) {
        OrderDesk desk = desk(n);
        for (int v = 1; v < n; v++) {
            desk.put(v - 1, v);
        }
        return desk;
    }

    static OrderDesk lineDownwards(int n) {
        OrderDesk desk = desk(n);
        for (int v = 1; v < n; v++) {
            desk.put(v, v - 1);
        }
        return desk;
    }

    /** Seven below seven others, each below all but one of them: it has 128 cuts. */
    static OrderDesk crown() {
        OrderDesk desk = desk(MOST);
        for (int a = 0; a < 7; a++) {
            for (int b = 0; b < 7; b++) {
                if (a != b) {
                    desk.put(a, 7 + b);
                }
            }
        }
        return desk;
    }

    /** So many things that keep apart, where fourteen in a line were asked about before. */
    static OrderDesk shrunkTo(int n) {
        OrderDesk desk = line(MOST);
        stateOf(desk);
        desk.begin(n);
        return desk;
    }

    /** Fourteen things that keep apart, where a new object's one thing was asked about before. */
    static OrderDesk grownToMost() {
        OrderDesk desk = new OrderDesk();
        stateOf(desk);
        desk.begin(MOST);
        return desk;
    }

    /** One thing, come to in three ways. */
    static OrderDesk[] withOneThing() {
        return new OrderDesk[] {new OrderDesk(), desk(1), shrunkTo(1)};
    }

    static long rowOf(int... things) {
        long row = 0;
        for (int p = things.length - 1; p >= 0; p--) {
            row = row * 16 + things[p];
        }
        return row;
    }

    static long factorial(int n) {
        long product = 1;
        for (int i = 2; i <= n; i++) {
            product *= i;
        }
        return product;
    }

    /**
     * Numbers that are no index from 0 of so many, up to 255: below 0, just behind the last one, far
     * above, and ones that would be an index if their upper bits were lost.
     */
    static int[] notFrom0To(int many) {
        return new int[] {
            Integer.MIN_VALUE, Integer.MIN_VALUE + many - 1, -65536, -256, -255, -many, -2, -1,
            many, many + 1, many + 16, many + 32, 256, 256 + many - 1, 65536, 65536 + many - 1,
            1 << 30, Integer.MAX_VALUE - 1, Integer.MAX_VALUE
        };
    }

    /** Answers that tell one order from another, and what is worked out from it too. */
    static long[] stateOf(OrderDesk desk) {
        int n = desk.count(0);
        int cuts = desk.count(5);
        long rows = desk.rows();
        long[] state = new long[10 + 3 * MOST];
        for (int what = 0; what < 5; what++) {
            state[what] = desk.count(what);
        }
        state[5] = cuts;
        state[6] = rows;
        state[7] = desk.row(rows - 1);
        state[8] = desk.cut(cuts / 2);
        state[9] = desk.apart();
        for (int v = 0; v < n; v++) {
            state[10 + 3 * v] = desk.covers(v);
            state[11 + 3 * v] = desk.next(v);
            state[12 + 3 * v] = desk.chain(v);
        }
        return state;
    }
}
