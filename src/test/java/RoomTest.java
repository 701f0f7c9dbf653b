import java.lang.management.ManagementFactory;

/** Calls make no objects: all rows are made in the constructor, and that many are few. */
final class RoomTest {
    private static final com.sun.management.ThreadMXBean THREADS =
            (com.sun.management.ThreadMXBean) ManagementFactory.getThreadMXBean();

    public static void main(String[] args) {
        Check check = new Check("RoomTest");
        callAll(new SieveTub());
        SieveTub tub = new SieveTub();
        long ahead = THREADS.getCurrentThreadAllocatedBytes();
        callAll(tub);
        long behind = THREADS.getCurrentThreadAllocatedBytes();
        check.due("bytes that calls make " + (behind - ahead), behind - ahead < 1000 ? 1 : 0, 1);
        ahead = THREADS.getCurrentThreadAllocatedBytes();
        for (int i = 0; i < 100; i++) {
            new SieveTub();
        }
        long each = (THREADS.getCurrentThreadAllocatedBytes() - ahead) / 100;
        check.due("bytes of an object " + each, each < 20000 ? 1 : 0, 1);
        check.end();
    }

    private static void callAll(SieveTub tub) {
        Check.write(tub, "plain 2 9;lazy 3 30;torn 3;runner 2 22;plain 5 40;lazy 1 3;frost 3 9");
        tub.fault();
        tub.well();
        tub.together(40, 0);
        for (int s = 0; s < 5; s++) {
            tub.begin(s);
            tub.moss(s);
            tub.sister(s, 3);
            tub.as(s, 1);
            tub.sieveAs(s, 1);
            tub.adds(s, 50);
        }
        tub.seen(9, 9);
        for (int i = 1; i < 9; i++) {
            tub.go(i * 7);
            tub.level(99);
            tub.highest(99);
            tub.full();
            tub.mossTo(99);
            tub.fewest(99);
            tub.pitch(i);
            tub.worked(0);
            tub.leaves(6, 3, 3, 0);
            tub.count(i);
            tub.keep(0);
            tub.smear(1);
            tub.undo();
            tub.back(0);
        }
        tub.rest(0);
        tub.forget();
        tub.erase();
    }
}
