import java.lang.management.ManagementFactory;

/** All calls of a run live in one room: the calls make nothing, a new object little; and the dearest calls end soon. */
public final class RoomTest {
    private static final int MOST_BYTES_OF_AN_OBJECT = 16_000;

    public static void main(String[] args) {
        Check check = new Check();
        com.sun.management.ThreadMXBean room = (com.sun.management.ThreadMXBean) ManagementFactory.getThreadMXBean();
        long thread = Thread.currentThread().getId();
        new SupperTales();
        room.getThreadAllocatedBytes(thread);
        long before = room.getThreadAllocatedBytes(thread);
        SupperTales x = new SupperTales();
        long made = room.getThreadAllocatedBytes(thread) - before;
        check.due("a new object of " + made + " bytes is small", made <= MOST_BYTES_OF_AN_OBJECT ? 1 : 0, 1);
        prepare(x);
        dearest(x);
        before = room.getThreadAllocatedBytes(thread);
        for (int i = 0; i < 30; i++) {
            dearest(x);
        }
        made = room.getThreadAllocatedBytes(thread) - before;
        check.due("calls made " + made + " bytes", made < 1000 ? 1 : 0, 1);
        check.end("RoomTest");
    }

    private static void prepare(SupperTales x) {
        Check.text(x, "IGa93Ga93Ga93Ga93Gb93");
        x.inn();
        Check.tale(x, 0, "gaagaagaakab");
        Check.tale(x, 1, "gabgbagabgbagabgbagabgba");
        Check.tale(x, 2, "tabtbagaawaawaagaagaagaa");
        x.odds(4, 3, 3);
    }

    private static int dearest(SupperTales x) {
        int sum = x.chosen(0, true) + x.chosen(0, false) + x.round(1) + x.round(2) + x.cut(1) + x.cut(2);
        sum += x.shortest(0, 2, 20) + x.shortestAt(3, 3, 3, 1) + x.rests(0, 1, 0) + x.nights(40);
        return sum + x.tell(2) + x.undo() + x.keep(0);
    }
}
