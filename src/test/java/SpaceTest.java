import com.sun.management.ThreadMXBean;
import java.lang.management.ManagementFactory;

/** What the dearest calls make: all 512 of a run live in one room, and nothing is given back. */
public final class SpaceTest {
    private static final String DOORS = "rooms 6;door 0 1;door 0 2;door 0 3;door 0 4;door 0 5;door 1 2;door 2 3;door 3 4;door 4 5;door 5 1;";
    private static final String GREATEST = DOORS + "head 0 1;head 1 2;head 2 3;head 3 4;head 4 1;head 5 2;sense 9;sense 38;sense 63;most 0 7;delay 1 5";

    public static void main(String[] args) {
        Check check = new Check("SpaceTest");
        ThreadMXBean bean = (ThreadMXBean) ManagementFactory.getThreadMXBean();
        long thread = Thread.currentThread().getId();
        HeadCounts warm = Check.in(GREATEST);
        ask(warm, 0);
        long before = bean.getThreadAllocatedBytes(thread);
        HeadCounts x = new HeadCounts();
        check.due("a new object is small", bean.getThreadAllocatedBytes(thread) - before < 60_000, true);
        Check.house(x, GREATEST);
        Check.rule(x, "go few if here > least;go crowd");
        for (int i = 0; i < 400; i++) {
            ask(x, i);
        }
        long bytes = bean.getThreadAllocatedBytes(thread) - before;
        // An element takes four bytes or more, so these are far fewer elements than the 7.3 million there is room for.
        check.due("a run of the dearest calls is small: " + bytes, bytes < 3_500_000, true);
        before = bean.getThreadAllocatedBytes(thread);
        for (int i = 0; i < 100; i++) {
            Check.house(x, GREATEST);
            Check.rule(x, "go 1" + "+1".repeat(59) + "+1");
            x.image(i % 4);
        }
        check.due("houses and faults are small", bean.getThreadAllocatedBytes(thread) - before < 400_000, true);
        check.close();
    }

    private static void ask(HeadCounts x, int i) {
        switch (i % 16) {
            case 0: x.tell(i % 8, i % 3, i % 12); break;
            case 1: x.fits(); break;
            case 2: x.who(i % 6); break;
            case 3: x.first(); break;
            case 4: x.next(i % 3); break;
            case 5: x.watch(); break;
            case 6: x.secret(i % 6, i % 5, 0); break;
            case 7: x.theft(i % 6, i % 5, 0); break;
            case 8: x.gather(i % 6, i % 25, 0); break;
            case 9: x.messages(i % 6, 12); break;
            case 10: x.swaps(0); break;
            case 11: x.nights(20, 100, 0, 3, 0); break;
            case 12: x.run(0, 60); break;
            case 13: x.image(i / 16 % 4); break;
            case 14: x.back(i / 16 % 4); break;
            default: x.undo();
        }
    }
}
