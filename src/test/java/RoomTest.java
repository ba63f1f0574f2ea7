import java.lang.management.ManagementFactory;

/** What a run makes: an object makes its rows once, and no call makes anything more. */
public final class RoomTest {
    private static final Checks CHECKS = new Checks("RoomTest");
    private static final com.sun.management.ThreadMXBean THREADS =
        (com.sun.management.ThreadMXBean) ManagementFactory.getThreadMXBean();
    private static int sum;

    public static void main(String[] args) {
        CHECKS.promise("the room");
        ParasolHours x = Checks.laid(Checks.FIRST);
        int rounds = 2000;
        bytesOf(x, 100);
        long bytes = bytesOf(x, rounds);
        // The least object has 16 bytes: one in each round would be twice as much as this.
        CHECKS.holds("calls make nothing, but made " + bytes + " bytes", bytes < 8L * rounds);
        long before = made();
        ParasolHours[] many = new ParasolHours[1000];
        for (int i = 0; i < many.length; i++) {
            many[i] = new ParasolHours();
        }
        long each = (made() - before) / many.length;
        CHECKS.holds("an object has 8000 bytes at most: " + each, each <= 8000);
        CHECKS.holds("the calls answered", sum != 0);
        CHECKS.end();
    }

    private static long made() {
        return THREADS.getThreadAllocatedBytes(Thread.currentThread().getId());
    }

    private static long bytesOf(ParasolHours x, int rounds) {
        long before = made();
        for (int i = 0; i < rounds; i++) {
            sum += everyCall(x, i);
        }
        return made() - before;
    }

    private static int everyCall(ParasolHours x, int i) {
        int all = x.fault() + x.lay() + x.take(0, 0) + x.take(1, 1) + x.share(3, i % 2) + x.walk(0, 0);
        all += x.pass(1 + i % 24) + x.give(3) + x.mend(2) + x.keep() + x.undo() + x.back() + x.pass(1);
        all += x.parasol(0, 3) + x.person(0, 2) + x.work(0, 2) + x.until(0, i % 24) + x.agree(0, 3);
        all += x.deal(-1) + x.deal(i % 4) + x.make(i % 24) + x.still(i % 49) + x.soonest(0, 0);
        all += x.see(i % 24, i % 31) + x.which() + x.set(0) + x.forget() + x.flecks(0, i % 24, 8, 3, 0);
        all += x.day(i, 60, 0) + x.day(i, 60, 1) + x.count(5);
        if (i % 100 == 0) {
            for (int k = 0; k < Checks.FIRST.length(); k++) {
                all += k == 0 ? x.wipe() : 0;
                all += x.write(Checks.FIRST.charAt(k));
            }
        }
        return all;
    }
}
