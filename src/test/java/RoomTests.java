import java.lang.management.ManagementFactory;

/** Calls make no objects: all rooms are made by the constructor. On a full object, with the dearest calls there are. */
public final class RoomTests {
    private static final int[] LAST = {0};

    public static void main(String[] args) {
        com.sun.management.ThreadMXBean threads = (com.sun.management.ThreadMXBean) ManagementFactory.getThreadMXBean();
        long self = Thread.currentThread().getId();
        long made = Long.MAX_VALUE;
        for (int turn = 0; turn < 5; turn++) {
            ApprovalRoutes x = full();
            long before = threads.getThreadAllocatedBytes(self);
            callAll(x);
            made = Math.min(made, threads.getThreadAllocatedBytes(self) - before);
        }
        long before = threads.getThreadAllocatedBytes(self);
        ApprovalRoutes x = new ApprovalRoutes();
        long object = threads.getThreadAllocatedBytes(self) - before;
        LAST[0] += x.count(0);
        System.out.println("an object: " + object + " bytes; all calls: " + made + " bytes");
        if (made > 1000 || object > 60000) {
            System.out.println("that is too much");
            System.exit(1);
        }
    }

    private static ApprovalRoutes full() {
        ApprovalRoutes x = new ApprovalRoutes();
        x.feed(0x706f7374, 0x20746f70, 0x20392039, 0x20390000, 0);
        x.end(14);
        x.tell();
        for (int k = 0; k < 24; k++) {
            x.hold(0, k % 16, 40 * k, 40 * k + 30);
            x.away(k % 16, 30 * k, 30 * k + 200);
            x.stand(k % 16, (k * 7 + 1) % 16, 0, 999, 9);
            x.foe(k % 16, k % 10);
        }
        x.set(0, 99);
        x.set(2, 30);
        for (int k = 0; k < 40; k++) {
            x.request(k % 3, 0, k % 2, 1 + k, 24 * k);
        }
        return x;
    }

    private static void callAll(ApprovalRoutes x) {
        long sum = 0;
        for (int r = 0; r < 40; r++) {
            sum += x.joined(r) + x.asked(r, 7) + x.step(r, 0, 0) + x.chain(r, 0, 0) + x.ends(r, 0) + x.split(r) + x.most(r, 0);
            sum += x.without(r, 1, 0) + x.cure(r, 0) + x.could(r) + x.soonest(r, 100, 160, 0) + x.instead(r, 0, 0);
        }
        for (int what = 0; what < 14; what++) {
            sum += x.count(what) + x.load(what, 0) + x.busiest(0) + x.approved(2) + x.pillar(0) + x.ring(what) + x.tangle(what);
            sum += x.power(what, 5, 0) + x.decides(0, what, 1, 1) + x.manned(0, 0, 999, 1) + x.gap(0, 0, 999, 2);
            sum += x.dodge(1, 0, 1, 9999, 0) + x.letter(what) + x.post(0, what) + x.entry(1, what, 0);
        }
        sum += x.keep(0) + x.undo() + x.limit(0, 0, 1) + x.set(1, 5) + x.drop(0, 0) + x.recall(39, 999) + x.amend(38, 5, 999) + x.back(0);
        sum += x.feed(1, 2, 3, 4, 5) + x.end(7) + x.tell();
        LAST[0] += (int) sum;
    }
}
