import com.sun.management.ThreadMXBean;
import java.lang.management.ManagementFactory;

/** What a run of 512 calls makes stays far below the room that all calls of a run share, some 7.3 million fields. */
public final class RoomTest {
    private static final long MOST_BYTES = 1000000L;
    private static final ThreadMXBean THREADS = (ThreadMXBean) ManagementFactory.getThreadMXBean();
    private static long answers = 0;

    private RoomTest() {
    }

    /** So many calls, and what must be told ahead of them. */
    private interface Run {
        void on(TankBehind x, int calls);
    }

    public static void main(String[] args) {
        measure("feeds and rules", RoomTest::rules);
        measure("cars", RoomTest::cars);
        measure("questions", RoomTest::questions);
        Expect.due("answers were used", answers != 0, true);
        Expect.finish("RoomTest");
    }

    private static void measure(String name, Run run) {
        long least = Long.MAX_VALUE;
        // The first rounds also load classes.
        for (int round = 0; round < 5; round++) {
            long before = THREADS.getCurrentThreadAllocatedBytes();
            run.on(new TankBehind(), 512);
            least = Math.min(least, THREADS.getCurrentThreadAllocatedBytes() - before);
        }
        Expect.due(name + " made " + least + " bytes, less than " + MOST_BYTES, least < MOST_BYTES, true);
    }

    private static void rules(TankBehind x, int calls) {
        for (int i = 0; i < calls / 22; i++) {
            x.feed(0x67697665, 0x20312020, 0x20202020, 0x20202020, 0x20202020);
            for (int n = 1; n < 20; n++) {
                x.feed(0x2b312b31, 0x2b312b31, 0x20202020, 0x20202020, 0x20202020);
            }
            answers += x.end(400);
            answers += x.rule(0);
        }
    }

    private static void cars(TankBehind x, int calls) {
        x.person(0);
        x.kind(0, 0, 0, 0);
        for (int i = 2; i < calls; i++) {
            answers += x.car(0, 0, 0);
        }
    }

    private static void questions(TankBehind x, int calls) {
        x.person(0);
        x.kind(0, 0, 0, 0);
        x.part(1, 9, 9, 9);
        x.car(0, 0, 0);
        Expect.tell(x, "crash 0 5; give knew*100+part; recall if fires>3", 0);
        x.crash(0, 0, 0, 50, 1, true, false);
        x.test(0, 0, 6, true);
        x.reads(0, 0);
        x.clock(599);
        x.memo(0);
        x.row(0, true, 5, 5);
        for (int i = 0; i < 9; i++) {
            x.saver(i, i);
            x.step(i, 0, 0, i);
        }
        for (int i = 50; i < calls; i += 10) {
            answers += x.jury(0) + x.must(0, 0, i) + x.knewFails(0, 0, 0) + x.owed(0, i) + x.expected(0, i, 0);
            answers += x.best(i) + x.steps(0, 2) + x.putOff(0) + x.turnsAt(0, 0, 0) + x.owner(0, i, i);
        }
    }
}
