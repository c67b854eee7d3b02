import com.sun.management.ThreadMXBean;
import java.lang.management.ManagementFactory;

/** What a run of 512 calls takes of the room that all calls of a run share; the dearest calls fill it. */
public final class RoomTest {
    private static final int CALLS = 512;
    // An object with its images takes some 30,000; what is above would be made anew by each call.
    private static final long MOST_BYTES = 40_000;
    private static final ThreadMXBean THREADS = (ThreadMXBean) ManagementFactory.getThreadMXBean();

    private RoomTest() {
    }

    public static void main(String[] args) {
        THREADS.setThreadAllocatedMemoryEnabled(true);
        // The first run takes room for the classes that it loads, too.
        taken(0);
        long images = taken(0);
        long grids = taken(1);
        long money = taken(2);
        Check.due("images take " + images + " bytes, too many", images > MOST_BYTES, false);
        Check.due("grids take " + grids + " bytes, too many", grids > MOST_BYTES, false);
        Check.due("waves and claims take " + money + " bytes, too many", money > MOST_BYTES, false);
        Check.end();
    }

    private static long taken(int what) {
        long thread = Thread.currentThread().getId();
        long before = THREADS.getThreadAllocatedBytes(thread);
        ClaimsFund fund = Check.withGrid("points 10; when paper 1 and kind = 2: more 5;");
        for (int call = 10; call < CALLS; call += 4) {
            if (what == 0) {
                fund.image(0);
                fund.image(1);
                fund.image(2);
                fund.again(call % 3);
            } else if (what == 1) {
                fund.feed(0x6e6f6e65, 0x3b6e6f6e, 0x653b2020, 0x20202020, 0x20202020);
                fund.grid();
                fund.end(0);
                fund.grid();
            } else {
                fund.claim(call % 100, 0, 0, 0, 0);
                fund.judge(call / 4 % 16);
                fund.wave(1 + call % 100);
                fund.out(call % 16, call % 8 == 0);
            }
        }
        return THREADS.getThreadAllocatedBytes(thread) - before;
    }
}
