import com.sun.management.ThreadMXBean;
import java.lang.management.ManagementFactory;

/** A run of the dearest calls makes next to nothing: what is worked out stands in rows of the constructor. */
public final class RoomTest {
    private static final int CALLS = 512;
    private static final Due due = new Due("RoomTest");

    public static void main(String[] args) {
        EveningAuction x = Due.withBids("0010;1120;0230;9499");
        long digests = bytesOfDigests(x);
        long before = made();
        for (int n = 0; n < CALLS; n++) {
            x.sheet(n % 4, 2, 60);
        }
        long sheets = made() - before;
        before = made();
        EveningAuction another = new EveningAuction();
        long one = made() - before;
        another.digest();
        System.out.println("bytes: " + digests + " by digests, " + sheets + " by sheets, " + one + " by an object");
        due.is("512 changes and digests make less than 8 KiB", digests < 8192 ? 1 : 0, 1);
        due.is("512 sheets make less than 256 KiB", sheets < 256 * 1024 ? 1 : 0, 1);
        due.is("an object takes less than 8 KiB", one < 8192 ? 1 : 0, 1);
        due.finish();
    }

    private static long bytesOfDigests(EveningAuction x) {
        made();
        long before = made();
        for (int n = 0; n < CALLS; n++) {
            x.value(n % 5, n % 10, n % 100);
            x.digest();
            x.meet(31, 4, 1);
            x.without(0, 0);
        }
        return made() - before;
    }

    private static long made() {
        ThreadMXBean bean = (ThreadMXBean) ManagementFactory.getThreadMXBean();
        return bean.getThreadAllocatedBytes(Thread.currentThread().getId());
    }
}
