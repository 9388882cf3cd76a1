import com.sun.management.ThreadMXBean;
import java.lang.management.ManagementFactory;

/** What a run makes: the rows stand in the constructor, and the dearest calls make nothing more. */
public final class RoomRuns {
    private static final int NONE = TupleMethods.NONE;
    private static final long BYTES_OF_AN_OBJECT = 60_000;
    private static final long BYTES_OF_CALLS = 20_000;

    private static final ThreadMXBean BEAN = (ThreadMXBean) ManagementFactory.getThreadMXBean();

    private static int sum = 0;

    public static void main(String[] args) {
        run();
        long before = made();
        TupleMethods x = new TupleMethods();
        long object = made() - before;
        before = made();
        fill(x);
        askAll(x);
        long calls = made() - before;
        System.out.println(object + " bytes for an object, " + calls + " for its calls (" + sum + ")");
        if (object > BYTES_OF_AN_OBJECT || calls > BYTES_OF_CALLS) {
            System.out.println("due are at most " + BYTES_OF_AN_OBJECT + " and " + BYTES_OF_CALLS);
            System.exit(1);
        }
    }

    /** Once ahead of the count, so that nothing is counted that the machine makes at first. */
    private static void run() {
        TupleMethods x = new TupleMethods();
        fill(x);
        askAll(x);
        sum += made() > 0 ? 1 : 0;
    }

    private static long made() {
        return BEAN.getThreadAllocatedBytes(Thread.currentThread().getId());
    }

    private static void fill(TupleMethods x) {
        x.kind(0, NONE, NONE);
        x.kind(0, NONE, NONE);
        for (int c = 3; c < 16; c++) {
            x.kind(c - 2, c % 2 == 0 ? NONE : 0, NONE);
        }
        for (int f = 0; f < 4; f++) {
            x.function(3);
            for (int m = 0; m < 12; m++) {
                x.method(f, 0x321 * m * (f + 1) & 0xFFF, m % 4, m);
            }
        }
    }

    private static void askAll(TupleMethods x) {
        for (int i = 0; i < 400; i++) {
            int f = i % 4;
            switch (i / 4 % 12) {
                case 0: sum += x.of(f, 5); break;
                case 1: sum += x.of(f, 7); break;
                case 2: sum += x.of(f, 8); break;
                case 3: sum += x.rule(); break;
                case 4: sum += x.clash(f, 900); break;
                case 5: sum += x.settle(f); break;
                case 6: sum += x.change(f, 0xFFF); break;
                case 7: sum += x.work(f, 0); break;
                case 8: sum += x.chain(f, i, NONE); break;
                case 9: sum += x.call(f, i); break;
                case 10: sum += x.pole(f, 2, 15); break;
                default: sum += x.fight(f, 3, 4); break;
            }
        }
    }
}
