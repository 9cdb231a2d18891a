import java.lang.management.ManagementFactory;

/** All calls of a run live in one room: what 512 of each call make stays small. */
public final class RoomTest {
    private static final int CALLS = 512;
    private static final long ONE_OBJECT = 12_000, ALL_CALLS = 64_000;

    public static void main(String[] args) {
        filled();
        long before = made();
        RailCargo x = filled();
        long byOne = made() - before;
        Due.is("a filled object makes " + byOne + " bytes", byOne <= ONE_OBJECT ? 1 : 0, 1);
        for (int which = 0; which < 20; which++) {
            before = made();
            for (int k = 0; k < CALLS; k++) {
                call(x, which, k);
            }
            long bytes = made() - before;
            Due.is("512 calls of " + which + " make " + bytes + " bytes", bytes <= ALL_CALLS ? 1 : 0, 1);
        }
        Due.end("RoomTest");
    }

    private static long made() {
        return ((com.sun.management.ThreadMXBean) ManagementFactory.getThreadMXBean())
                .getThreadAllocatedBytes(Thread.currentThread().getId());
    }

    private static RailCargo filled() {
        RailCargo x = new RailCargo();
        for (int cargo = 0; cargo < 4; cargo++) {
            x.cargo(999, cargo);
            x.hour(cargo, 0, 10);
            x.hour(cargo, 1, 20);
            x.hour(cargo, 2, 30);
        }
        for (int sale = 0; sale < 24; sale++) {
            x.sale(sale % 6, sale % 9 * 10 + 9, 5, 5, sale);
            x.paper(sale, sale);
        }
        Due.text(x, "late 1;cut 2;stop 3;");
        return x;
    }

    private static long call(RailCargo x, int which, int k) {
        switch (which) {
            case 0: return x.whose(0, k % 10, k, k % 2);
            case 1: return x.falls(0, k % 10, k * 1000, k % 2);
            case 2: return x.between(0, k % 10, 999, k % 2);
            case 3: return x.feed(8, 0x3b31_6574_616c_2020L);
            case 4: return x.text();
            case 5: return x.force(k % 2);
            case 6: return x.owes(k % 24, k);
            case 7: return x.balance(k % 10, k);
            case 8: return x.closes((1 << 24) - 1);
            case 9: return x.differ((1 << 24) - 1, k % 10);
            case 10: return x.found(0);
            case 11: return x.loses(k % 100, k);
            case 12: return x.stops(9, k);
            case 13: return x.hangs(0, k, 0);
            case 14: return x.moves(k % 24, k % 60, k);
            case 15: return x.telegraph(0, k);
            case 16: return x.image() + x.back();
            case 17: return x.sheet(k % 4, k % 3, 40);
            case 18: return x.copy(0, 0, 0, 1, 39);
            default: return x.sales(0, 0, 0, 8);
        }
    }
}
