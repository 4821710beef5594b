import java.lang.management.ManagementFactory;

/** All calls of a run share one room: the dearest calls may make nothing that lasts. */
public final class RoomTest {
    private static final int CALLS = 512;

    public static void main(String[] args) {
        var threads = (com.sun.management.ThreadMXBean) ManagementFactory.getThreadMXBean();
        long thread = Thread.currentThread().getId();
        dearCalls(Check.made("members 8;jobs 6;every 1;wait 2;delay 3;"), 40);
        long start = threads.getThreadAllocatedBytes(thread);
        ChiefCircles x = Check.made("members 8;jobs 6;every 1;wait 2;delay 3;");
        long made = threads.getThreadAllocatedBytes(thread);
        dearCalls(x, CALLS);
        long called = threads.getThreadAllocatedBytes(thread);
        System.out.println((made - start) + " bytes for an object, " + (called - made) + " for its calls");
        Check.due("an object is small", made - start < 1_000_000);
        Check.due("its calls make next to nothing", called - made < 100_000);
        Check.end();
    }

    private static void dearCalls(ChiefCircles x, int calls) {
        for (int k = 0; k < calls; k++) {
            switch (k % 8) {
                case 0:
                    x.ticks(100);
                    break;
                case 1:
                    x.storms(20, k, 2);
                    break;
                case 2:
                    x.hardest(1);
                    break;
                case 3:
                    x.rule(3, 1 + k / 8 % 3);
                    break;
                case 4:
                    x.undo();
                    break;
                case 5:
                    x.ahead(100, 1);
                    break;
                case 6:
                    x.cut(k % 256);
                    break;
                default:
                    x.until();
                    break;
            }
        }
    }
}
