import com.sun.management.ThreadMXBean;
import java.lang.management.ManagementFactory;

/** All calls of a run live in one room: an object is made once, and its calls make nothing. */
public final class RoomTest {
    private static final int CALLS = 512;
    /** Bytes; an object with all its rows needs some 30,000. */
    private static final long OBJECT_AT_MOST = 60_000, CALLS_AT_MOST = 4_000;

    private static final Checks C = new Checks();

    private interface Call {
        long on(StoneRoads x);
    }

    public static void main(String[] args) {
        if (!(ManagementFactory.getThreadMXBean() instanceof ThreadMXBean bean)
                || !bean.isThreadAllocatedMemorySupported()) {
            System.out.println("this machine doesn't tell what is made");
            return;
        }
        StoneRoads first = BestTest.longLeast();
        made(bean);
        long before = made(bean);
        StoneRoads x = new StoneRoads();
        long needed = made(bean) - before;
        C.due("an object of " + needed + " bytes", needed <= OBJECT_AT_MOST ? 1 : 0, 1);
        C.due("it is there", x.count(0), 0);
        nothing(bean, "fits", first, y -> y.fits(0, 0, 0));
        nothing(bean, "odds", first, y -> y.odds(4, 4, 1));
        nothing(bean, "missed", first, y -> y.missed(1));
        nothing(bean, "cheapest", first, y -> y.cheapest(1));
        nothing(bean, "more", first, y -> y.more(2, 2));
        nothing(bean, "ends", first, y -> y.ends(0));
        nothing(bean, "start, step, rise", first, y -> y.start(2) + y.step(2, 100) + y.rise(0, 0));
        nothing(bean, "image, undo", first, y -> y.image() + y.undo());
        nothing(bean, "tape, shift, judge", first, y -> y.tape(0, 3, 60) + y.shift(0, 0, 0, 1, 59) + y.judge(0, 9));
        nothing(bean, "feed, read", first, y -> y.feed('q') + y.read());
        C.finish();
    }

    private static long made(ThreadMXBean bean) {
        return bean.getThreadAllocatedBytes(Thread.currentThread().getId());
    }

    /** Called once ahead, since what the machine loads then is not the call's. */
    private static void nothing(ThreadMXBean bean, String name, StoneRoads x, Call call) {
        call.on(x);
        long before = made(bean);
        for (int n = 0; n < CALLS; n++) {
            call.on(x);
        }
        long needed = made(bean) - before;
        C.due(CALLS + " of " + name + " made " + needed + " bytes", needed <= CALLS_AT_MOST ? 1 : 0, 1);
    }
}
