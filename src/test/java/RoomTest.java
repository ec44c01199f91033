import java.lang.management.ManagementFactory;

/** All calls of a run live in one room: what an object needs it makes once, and its calls make nothing. */
public final class RoomTest {
    private static final int CALLS = 512;
    private static final int ROUNDS = 40;

    private static final com.sun.management.ThreadMXBean METER =
            (com.sun.management.ThreadMXBean) ManagementFactory.getThreadMXBean();

    public static void main(String[] args) {
        Check check = new Check("RoomTest");
        long calls = Long.MAX_VALUE;
        long objects = Long.MAX_VALUE;
        int answers = 0;
        // the machine itself makes things at first, so the least of some rounds tells
        for (int round = 0; round < ROUNDS; round++) {
            long before = METER.getCurrentThreadAllocatedBytes();
            NetShape x = new NetShape();
            long between = METER.getCurrentThreadAllocatedBytes();
            answers += use(x);
            long behind = METER.getCurrentThreadAllocatedBytes();
            objects = Math.min(objects, between - before);
            calls = Math.min(calls, behind - between);
        }
        System.out.println("RoomTest: an object has " + objects + " bytes, its calls make " + calls + " (" + answers + ")");
        check.holds("an object is small: " + objects + " bytes", objects < 16384);
        check.holds("calls make nothing: " + calls + " bytes", calls < 256);
        check.close();
    }

    /** The dearest calls, each behind a change, so that no answer is there yet. */
    private static int use(NetShape x) {
        int sum = 0;
        for (int name = 0; name < 4; name += 2) {
            addRow(x, name, -1, -1, name + 1);
        }
        for (int call = 0; call < CALLS / 16; call++) {
            sum += x.tell(0, 4, call % 2 == 0);
            sum += x.nets() + x.shape(0) + x.shape(1) + x.boxOf(0, 1) + x.far(0, 0, 2) + x.sure(0, 2);
            sum += x.falses() + x.next() + x.worst() + x.count(2) + x.count(4) + x.at(0, 1);
            sum += x.untell();
        }
        addRow(x, 0, 1);
        sum += x.falses() + x.nets() + x.forget(2) + x.drop();
        return sum;
    }

    private static void addRow(NetShape x, int... hops) {
        for (int hop : hops) {
            x.hop(hop);
        }
        x.trace();
    }
}
