import java.lang.management.ManagementFactory;

/** All calls of a run live in one room: no call makes objects, but for the exceptions that it throws. */
public final class RoomTest {
    /** Less than thirty of the smallest objects, one for each turn. */
    private static final long SPARE_BYTES = 400;

    public static void main(String[] args) {
        if (ManagementFactory.getThreadMXBean() instanceof com.sun.management.ThreadMXBean bean
                && bean.isThreadAllocatedMemorySupported()) {
            bean.setThreadAllocatedMemoryEnabled(true);
            for (int run = 0; run < 3; run++) {
                oneRun(bean, run > 0);
            }
        }
        Check.finish();
    }

    /** The first run only makes what the machine itself needs once. */
    private static void oneRun(com.sun.management.ThreadMXBean bean, boolean counts) {
        TariffDesk desk = Check.deskWith("plan a fee 5 for 0 rest 1 for 1 rest 2;plan b fee 9 term 3 for 0 rest 0 for 1 rest 1;", 2);
        Check.uses(desk, 0, 0, 0, 9, 0, 9, 0, 9);
        Check.uses(desk, 3, 1, 7, 9, 0, 9, 0, 9);
        desk.change(1);
        long thread = Thread.currentThread().getId();
        long before = bean.getThreadAllocatedBytes(thread);
        long sum = 0;
        for (int k = 0; k < 30; k++) {
            sum += manyCalls(desk);
        }
        long made = bean.getThreadAllocatedBytes(thread) - before;
        if (counts) {
            Check.due("few bytes made (" + made + "), answers " + sum, made < SPARE_BYTES, true);
        }
    }

    /** Sixteen calls, the dearest ones, a text that is read and one call that is refused among them. */
    private static long manyCalls(TariffDesk desk) {
        long sum = desk.bills() + desk.best(15, 0, 24) + desk.cost(1, 15, 0, 0) + desk.bill(0, 0, 0, 7);
        sum += desk.had(3) + desk.group(2) + desk.name(1) + desk.octet(0) + desk.fault() + desk.count(0);
        sum += (desk.span(0, 0, 50) ? 1 : 0) + desk.above(0, 1, true);
        sum += desk.feed(0x706c616e, 0x20612066, 0x65652035, 0x3b212121, 0x20202020) + desk.plans();
        sum += desk.use(0, 0, 0) + desk.best(15, 24, 0);
        return sum;
    }
}
