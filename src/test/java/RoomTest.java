import java.lang.management.ManagementFactory;

/** All calls of a run share one room, so calls make no objects: rows are made by the constructor and used again. */
public final class RoomTest {
    private static final String SIX = "n9 50;c3 0;c0 60;c1 1;c2 2;c1 3;c3 60;d0 0 30 1;d0 1 0 9;d1 1 1 2;d0 2 5 3;d2 1 9 4;d9 3 3 9;";
    private static final long BYTES_PER_OBJECT = 12000;

    public static void main(String[] args) {
        com.sun.management.ThreadMXBean bean = (com.sun.management.ThreadMXBean) ManagementFactory.getThreadMXBean();
        long id = Thread.currentThread().getId();
        DummyHunt x = new DummyHunt();
        everyCall(x);
        long before = bean.getThreadAllocatedBytes(id);
        long none = bean.getThreadAllocatedBytes(id) - before;
        before = bean.getThreadAllocatedBytes(id);
        for (int i = 0; i < 200; i++) {
            everyCall(x);
        }
        long byCalls = bean.getThreadAllocatedBytes(id) - before - none;
        before = bean.getThreadAllocatedBytes(id);
        DummyHunt y = new DummyHunt();
        long byOne = bean.getThreadAllocatedBytes(id) - before - none;
        System.out.println("200 rounds of every call made " + byCalls + " bytes, a new object " + byOne);
        if (byCalls > 20000 || byOne > BYTES_PER_OBJECT || y.told(2) != 0) {
            System.exit(1);
        }
    }

    private static void everyCall(DummyHunt x) {
        for (int i = 0; i < SIX.length(); i++) {
            x.feed(SIX.charAt(i));
        }
        x.nursery();
        x.fault();
        x.give(0, 0);
        x.give(1, 1);
        x.drop(0);
        x.lost(20, 99, 60);
        x.pick(0);
        x.boil();
        x.cold(2);
        x.hour(60);
        x.drift(60);
        for (int k = -1; k < 7; k++) {
            x.told(k);
            x.child(k, 2);
            x.dummy(k, 6);
            x.mostCalm(true, k);
            x.mostCalm(false, k);
            x.trades(k);
            x.wants(k);
            x.wanted(k);
            x.spares(k);
            x.off(k);
            x.whose(k);
        }
        x.trial(0, 0, true);
        x.next();
        x.write(0, 0);
        x.judge();
        x.tear();
        x.quiet(60);
        x.seed(4);
        x.undo();
        x.keep(0);
        x.goBack(0);
    }
}
