import com.sun.management.ThreadMXBean;
import java.lang.management.ManagementFactory;

/** A call that answers makes no object, and an object with its rows is small. */
public final class RoomTest {
    private static final ThreadMXBean THREADS = (ThreadMXBean) ManagementFactory.getThreadMXBean();
    private static final long MOST_BYTES = 40_000;

    private RoomTest() { }

    public static void main(String[] args) {
        for (int warm = 0; warm < 50; warm++) {
            OrderAssembler x = new OrderAssembler();
            Check.enter(x, Check.FURNITURE);
            use(x);
        }
        long made = Long.MAX_VALUE;
        long used = Long.MAX_VALUE;
        // The least of several, for the machine may make something of its own in between.
        for (int time = 0; time < 5; time++) {
            long before = THREADS.getCurrentThreadAllocatedBytes();
            OrderAssembler x = new OrderAssembler();
            made = Math.min(made, THREADS.getCurrentThreadAllocatedBytes() - before);
            Check.enter(x, Check.FURNITURE);
            before = THREADS.getCurrentThreadAllocatedBytes();
            use(x);
            used = Math.min(used, THREADS.getCurrentThreadAllocatedBytes() - before);
        }
        Check.due("an object takes " + made + " bytes, at most " + MOST_BYTES, made <= MOST_BYTES ? 1 : 0, 1);
        Check.due("bytes that the calls make", used, 0);
        System.out.println("an object takes " + made + " bytes, its calls " + used);
        Check.end();
    }

    private static int use(OrderAssembler x) {
        int sum = x.load();
        for (int round = 0; round < 5; round++) {
            sum += x.allocate() + x.buy(0, 5) + x.advance(6) + x.adjust(0, 20 + round) + x.lateOrders();
            sum += x.addOrder(1, 3, 4, 5, round % 2 == 0) + x.wouldGet(3) + x.rungOf(3) + x.rungUnits(1);
            sum += x.buildableTogether(0, 1) + x.buildableAfter(0, 1, 0) + x.bottleneck(2) + x.promise(1, 9);
            sum += x.promiseOf(0) + x.promiseOfAll() + x.coveredOrders() + x.scarcestPart() + x.missingPieces(1);
            sum += x.formatOrder(2) + x.formatNeeds(1) + x.formattedByte(3) + x.total(1) + x.shipment(0, 0);
            sum += x.undo() + x.delayingPart(0) + x.usedBy(0) + x.commonParts(0, 1) + x.pieces(2);
        }
        return sum + x.cancel(0) + x.append(1, 2, 3, 4, 5) + (x.truncate(0) ? 1 : 0);
    }
}
