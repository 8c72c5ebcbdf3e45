import com.sun.management.ThreadMXBean;
import java.lang.management.ManagementFactory;

/** An object takes little room, and no call but newCase takes more: so the dearest 512 calls stay in the room. */
public final class RoomTest {
    private static final ThreadMXBean BEAN = (ThreadMXBean) ManagementFactory.getThreadMXBean();

    public static void main(String[] args) {
        dearCalls(linked());
        long before = made();
        PleasToIssue x = linked();
        long object = made() - before;
        before = made();
        dearCalls(x);
        long calls = made() - before;
        if (object > 20_000 || calls > 1_000) {
            System.out.println(object + " bytes for the object, " + calls + " bytes for its calls");
            System.exit(1);
        }
    }

    private static PleasToIssue linked() {
        PleasToIssue x = new PleasToIssue();
        for (int point = 0; point < 5; point++) {
            for (int by = 1; by < 5; by++) {
                x.link(0, point, by, true);
                x.link(1, point, by, true);
            }
        }
        for (int i = 0; i < 4; i++) {
            x.newCase(31);
        }
        for (char sign : "days 2;bar d n>9|n>9|n>9|n>9|n>9;slip x n>1|n>8;slip n n>2|n>9|n>9;slip d n>9;bar f n>8".toCharArray()) {
            x.feed(sign, 1);
        }
        x.rules();
        return x;
    }

    private static void dearCalls(PleasToIssue x) {
        for (int i = 0; i < 30; i++) {
            x.ends(0);
            x.row(9333, 0);
            x.best(i & 3, 4);
            x.traps(i & 3, 1, -1);
            x.edge(i & 3);
            x.right(0);
            x.reform(0);
            x.act(5, 2, i);
            x.tape(i % 6, 0, 60);
            x.item(i % 6, 0, 60);
            x.told(i % 6, 0, 20, 0);
            x.shift(0, 0, 0, 1, 3);
            x.feed('b' << 16 | 'a' << 8 | 'r', 3);
            x.rules();
        }
    }

    private static long made() {
        return BEAN.getThreadAllocatedBytes(Thread.currentThread().getId());
    }
}
