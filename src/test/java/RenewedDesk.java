import java.util.ArrayList;
import java.util.List;

/**
 * An order that can be asked about without end. What an object answers after its 512th call is free, so
 * one that has had its calls gives way to a new one, which is told the same order.
 */
final class RenewedDesk {
    private static final int MOST_CALLS = 512;

    private final List<int[]> changes = new ArrayList<>();
    private OrderDesk desk = new OrderDesk();
    private int things = 1;
    private int calls = 0;

    int begin(int n) {
        int got = ask().begin(n);
        if (got == n) {
            things = n;
            changes.clear();
        }
        return got;
    }

    int put(int a, int b) {
        int got = ask().put(a, b);
        if (got > 0) {
            changes.add(new int[] {a, b});
        }
        return got;
    }

    int free(int v) {
        int got = ask().free(v);
        if (got > 0) {
            changes.add(new int[] {v});
        }
        return got;
    }

    /** The object to put one question to. */
    OrderDesk ask() {
        if (calls == MOST_CALLS) {
            renew();
        }
        calls++;
        return desk;
    }

    void renew() {
        desk = new OrderDesk();
        desk.begin(things);
        for (int[] change : changes) {
            if (change.length == 1) {
                desk.free(change[0]);
            } else {
                desk.put(change[0], change[1]);
            }
        }
        calls = 1 + changes.size();
    }
}
