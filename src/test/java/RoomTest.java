import java.lang.management.ManagementFactory;
import java.util.function.IntConsumer;

/** What 512 calls on one object make, the object itself too: it has to stay far below the room of one run. */
public final class RoomTest {
    // the room holds 7.3 million fields and elements; were each of four bytes, this would be a tenth of it
    private static final long BYTES = 2900000;

    private static int wrong = 0;

    private static void measure(String what, CaseTrials[] x, IntConsumer calls) {
        com.sun.management.ThreadMXBean threads =
                (com.sun.management.ThreadMXBean) ManagementFactory.getThreadMXBean();
        long thread = Thread.currentThread().getId();
        long before = threads.getThreadAllocatedBytes(thread);
        x[0] = new CaseTrials();
        for (int i = 0; i < 512; i++) {
            calls.accept(i);
        }
        long made = threads.getThreadAllocatedBytes(thread) - before;
        System.out.println("bytes made by 512 calls of " + what + ": " + made);
        if (made > BYTES) {
            wrong++;
        }
    }

    private static void build(CaseTrials x, int i) {
        switch (i) {
            case 0:
                x.shuffled(1);
                break;
            case 27:
                x.picked(26, x.check(2, 25, 0));
                break;
            case 28:
                x.listOf(26, 24);
                x.property(28, x.check(11, 2, 3));
                x.property(27, 0);
                break;
            default:
                x.oneOf(i - 1, 1, i - 1, 1);
                break;
        }
    }

    public static void main(String[] args) {
        CaseTrials[] x = new CaseTrials[1];
        measure("make", x, i -> {
            if (i <= 28) {
                build(x[0], i);
            } else {
                x[0].make(28, i, 24);
            }
        });
        measure("run and smaller", x, i -> {
            if (i <= 28) {
                build(x[0], i);
            } else if (i % 2 == 0) {
                x[0].run(0, i, 50, 24);
                x[0].show(true);
            } else {
                x[0].smaller(20);
            }
        });
        measure("sign, script and holds", x, i -> {
            if (i <= 28) {
                build(x[0], i);
            } else if (i == 29) {
                x[0].make(28, i, 24);
            } else {
                x[0].sign(i);
                x[0].script(2, 1, i % 12, 2);
                x[0].holds(1);
            }
        });
        measure("what is refused", x, i -> {
            x[0].whole(0, 0);
            x[0].check(0, 0, 0);
            x[0].property(0, 0);
        });
        if (wrong != 0) {
            System.exit(1);
        }
    }
}
