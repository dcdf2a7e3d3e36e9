import com.sun.management.ThreadMXBean;
import java.lang.management.ManagementFactory;

/** An object makes its rows when it is made; no call makes anything, so that a run fits its room. */
public final class RoomTest {
    private static final int CALLS = 512;

    public static void main(String[] args) {
        Check check = new Check();
        ThreadMXBean bean = (ThreadMXBean) ManagementFactory.getThreadMXBean();
        long thread = Thread.currentThread().getId();
        spend(new SownPaths());
        long before = bean.getThreadAllocatedBytes(thread);
        SownPaths x = new SownPaths();
        long made = bean.getThreadAllocatedBytes(thread);
        spend(x);
        long after = bean.getThreadAllocatedBytes(thread);
        check.holds("an object takes less than 8,000 bytes: " + (made - before), made - before < 8000);
        check.holds("calls take no room: " + (after - made), after - made < 2000);
        check.end();
    }

    private static long spend(SownPaths x) {
        long sum = 0;
        for (int k = 0; k < 7; k++) {
            x.sow(k, 5 * k, k % 4);
        }
        x.sheet(0, 32, 40);
        for (int i = 0; i < CALLS; i++) {
            sum += x.feed('s' << 24 | 'e' << 16 | 'e' << 8 | 'd', 4) + x.feed(' ' << 8 | '7', 2) + x.text();
            x.image();
            sum += x.go(1) + x.dogs(1) + x.where(3) + x.way(0, 35) + x.joined(3) + x.groups() + x.parts(0, 35)
                    + x.bridges(0, 35) + x.mend(0, 35);
            x.undo();
            sum += x.ahead(0, 60) + x.head(0, 60) + x.when(0, 35) + x.bare() + x.there(60) + x.kindFor(0, 60)
                    + x.headingFor(0, 60) + x.without(60) + x.weed() + x.fits(0, 0, 35) + x.headings(0, 0, 35);
            sum += x.odds(11, 0) + x.hold(0, 0) + x.as(0, 0) + x.write(0, 1, 1) + x.copy(0, 0, 0, 1, 3) + x.load(0)
                    + x.judge(0) + x.count(6) + x.status(-1) + x.cell(3, 3) + x.of(0, 6) + x.now(2);
        }
        return sum + x.sowFor(3, 0, 35, 30);
    }
}
