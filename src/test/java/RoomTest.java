import com.sun.management.ThreadMXBean;
import java.lang.management.ManagementFactory;
import java.util.function.LongSupplier;

/** Calls make next to nothing: 512 of the dearest have to stay far below the room of a run. */
public final class RoomTest {
    private static final int CALLS = 512;
    // 7.3 million fields and elements would be some 29 million bytes of ints; a tenth of it is asked for
    private static final long MOST_BYTES = 2_900_000;
    private static final ThreadMXBean THREADS = (ThreadMXBean) ManagementFactory.getThreadMXBean();
    private static int wrong;
    private static long sum;

    public static void main(String[] args) {
        room("new JudgesByLoss()", 64, () -> new JudgesByLoss().count(0));
        JudgesByLoss x = new JudgesByLoss();
        for (int p = 0; p < 6; p++) {
            x.judge(11 * p, 0x155 + p, 50);
        }
        for (int c = 0; c < 8; c++) {
            x.file(1023 >> c, 10 * c);
        }
        x.film(0, 20);
        x.image();
        room("run", CALLS, () -> x.run(40, 2));
        room("when", CALLS, () -> x.when(8));
        room("sitting", CALLS, () -> x.sitting(1));
        room("burglary", CALLS, () -> x.burglary(40, 0));
        room("wants", CALLS, () -> x.wants(0, 0, 0));
        room("fullest", CALLS, () -> x.fullest(0));
        room("ruin", CALLS, () -> x.ruin(0));
        room("kinds", CALLS, () -> x.kinds(0, 1, 0));
        room("turned", CALLS, () -> x.turned(0, 1));
        room("states", CALLS, () -> x.states(0, 1, 1, 0));
        room("dropped", CALLS, () -> x.dropped(0));
        room("laws", CALLS, () -> x.laws(0));
        room("film", CALLS, () -> x.film(1, 20));
        room("odds", CALLS, () -> x.odds(7, 40, 2, 0));
        room("sheet", CALLS, () -> x.sheet(2, 2, 40));
        room("judgesBy", CALLS, () -> x.judgesBy(2, 2, 0, 6));
        room("back", CALLS, x::back);
        room("image", CALLS, x::image);
        room("day", CALLS, x::day);
        room("text, a fault", CALLS, () -> Due.read(x, "needs (mind;"));
        System.out.println(wrong == 0 ? "all calls stay in their room" : wrong + " calls need too much room");
        System.exit(wrong == 0 ? 0 : 1);
    }

    private static void room(String call, int times, LongSupplier calls) {
        long thread = Thread.currentThread().getId();
        sum += calls.getAsLong();
        long before = THREADS.getThreadAllocatedBytes(thread);
        for (int i = 0; i < times; i++) {
            sum += calls.getAsLong();
        }
        long bytes = THREADS.getThreadAllocatedBytes(thread) - before;
        if (bytes > MOST_BYTES) {
            wrong++;
            System.out.println(call + ": " + bytes + " bytes by " + times + " calls (" + sum + ")");
        }
    }
}
