import java.lang.management.ManagementFactory;

/** All calls of a run live in one room: an object is small, and its calls make nothing new. */
public final class RoomTest {
    private static final com.sun.management.ThreadMXBean THREADS =
        (com.sun.management.ThreadMXBean) ManagementFactory.getThreadMXBean();
    private static final Check CHECK = new Check("RoomTest");

    public static void main(String[] args) {
        // The first object loads the classes, which is not what is measured.
        calls(new EtaSeries());
        long start = taken();
        EtaSeries x = new EtaSeries();
        long made = taken();
        int answers = calls(x);
        long called = taken();
        CHECK.holds("an object takes " + (made - start) + " bytes", made - start < 64 * 1024);
        CHECK.holds("its calls take " + (called - made) + " bytes", called - made < 4 * 1024);
        CHECK.holds("calls answered", answers != 0);
        CHECK.end();
    }

    private static long taken() {
        return THREADS.getThreadAllocatedBytes(Thread.currentThread().getId());
    }

    private static int type(EtaSeries x, String text) {
        int sum = 0;
        for (int k = 0; k < text.length(); k++) {
            sum += x.type(text.charAt(k));
        }
        return sum;
    }

    /** 512 calls, the dearest ones among them. */
    private static int calls(EtaSeries x) {
        int sum = x.length(40) + x.sheet(0, 2, 40);
        for (int k = 0; k < 6; k++) {
            sum += x.item(0, 2, 2 * k, 1) + x.item(0, 2, 2 * k + 1, k % 2 == 0 ? 9 : -9);
        }
        for (int turn = 0; turn < 4; turn++) {
            sum += type(x, "((((((1+q(1))))^8*(1-q(1))^8/t(1)^8*1^8*1^8+1))))") + x.work(0);
            sum += type(x, "1+") + x.work(1);
        }
        for (int turn = 0; turn < 14; turn++) {
            sum += x.quotient(1, 0, 2, 0, 6) + x.told(0, 2, 0, 6, 1) + x.told(0, 2, 0, 6, 2);
            sum += x.drift(40) + x.image() + x.restore() + x.undo() + x.found(2, 1, 0) + x.fits(2, 1, 0, 2, 1);
            sum += x.join(3, 2, 0, 1) + x.change(3, 5, 8) + x.film(1, 0, 2, 0) + x.wrought(0, 1, 0, 2, 0, 12);
            sum += x.copy(0, 0, 0, 1, 39) + x.guess(1, 6, 3, 1) + x.first(0, 1) + x.seed(turn) + x.count(1);
            sum += x.out(3) + x.make(3, 3, 1) + x.term(3, 1);
        }
        return sum;
    }
}
