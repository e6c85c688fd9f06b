import com.sun.management.ThreadMXBean;
import java.lang.management.ManagementFactory;

/** The room of a run: all that an object needs it makes in its constructor, and calls make nothing new. */
public final class RoomTest {
    private static final ThreadMXBean BEAN = (ThreadMXBean) ManagementFactory.getThreadMXBean();

    public static void main(String[] args) {
        Check c = new Check("RoomTest");
        JoinedMonths x = full();
        calls(full());
        long before = made();
        long nothing = made() - before;
        before = made();
        calls(x);
        long byCalls = made() - before - nothing;
        // Far below one int for each MONTH, so that no call can have made a row of them.
        c.yes("calls made " + byCalls + " bytes", byCalls < 1024);
        before = made();
        JoinedMonths y = new JoinedMonths();
        long byNew = made() - before - nothing;
        c.yes("a new object is " + byNew + " bytes", byNew < 40000 && y.count(0) == 0);
        c.end();
    }

    private static JoinedMonths full() {
        JoinedMonths x = new JoinedMonths();
        for (int k = 0; k < 20; k++) {
            x.comes(k % 5, k % 4, 17 * k, 17 * k + 12 + k % 9, 100 + k);
        }
        return x;
    }

    private static long made() {
        return BEAN.getThreadAllocatedBytes(Thread.currentThread().getId());
    }

    private static void calls(JoinedMonths x) {
        for (int i = 0; i < 12; i++) {
            x.years(i, 30);
            x.sign(0x6b30316c);
            x.sign(0x30320000);
            x.end(6);
            x.day();
            x.sign(0x77736376);
            x.ranks();
            x.spans();
            x.laws();
            x.sheet(2, 20, i, 40);
            x.own(0);
            x.total();
            x.year(3);
            x.gaps();
            x.doubles();
            x.pieces();
            x.both(0, 1);
            x.at(300);
            x.most();
            x.late(0, 0, 0, 9, 100);
            x.without(3);
            x.lawful(0, 0, 1);
            x.settled(3, 3);
            x.instead(0, 0, 0, 0, 359, 9);
            x.worth();
            x.best();
            x.buys(1, 24, 500);
            x.missing(1);
            x.earns(1);
            x.part(1, 200);
            x.goes(0);
            x.comes(0, 0, i, i + 9, 100);
            x.lasts(0, i, i + 20);
            x.becomes(0, 1, i);
            x.indexes(i, 200);
            x.sets(0, i % 20);
            x.undo();
            x.keep(i % 2);
            x.again(i % 2);
        }
    }
}
