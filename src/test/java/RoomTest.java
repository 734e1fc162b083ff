import com.sun.management.ThreadMXBean;
import java.lang.management.ManagementFactory;

// What runs of calls make stays far below the one room they live in, and later calls never throw.
public final class RoomTest {
    private static final int FULL = -1000004;
    // The room has 7.3 million fields and elements; four bytes or more each.
    private static final long RUN_BYTES = 2_000_000;

    private static int wrong = 0;

    private static void must(boolean holds, String what) {
        if (!holds) {
            wrong++;
            System.out.println("not so: " + what);
        }
    }

    public static void main(String[] args) {
        must(allocatedBy(0) >= 0, "this machine counts what is allocated");
        for (int kind = 0; kind < 4; kind++) {
            long bytes = allocatedBy(kind);
            System.out.println("run " + kind + " allocated " + bytes + " bytes");
            must(bytes < RUN_BYTES, "run " + kind + " allocates less than " + RUN_BYTES + " bytes");
        }
        longRun();
        System.out.println(wrong == 0 ? "the room is kept" : wrong + " are not so");
        if (wrong != 0) {
            System.exit(1);
        }
    }

    private static long allocatedBy(int kind) {
        ThreadMXBean bean = (ThreadMXBean) ManagementFactory.getThreadMXBean();
        long before = bean.getThreadAllocatedBytes(Thread.currentThread().getId());
        run(kind);
        return bean.getThreadAllocatedBytes(Thread.currentThread().getId()) - before;
    }

    private static void run(int kind) {
        LevelStore x = new LevelStore();
        int calls = 0;
        if (kind == 0) {
            for (; calls < 512; calls += 4) {
                x.drop(calls % 100);
                x.flush();
                x.work(500);
                x.install();
            }
            return;
        }
        for (int f = 0; f < 5; f++) {
            for (int k = 0; k < 24; k++) {
                x.put(41 * k + f, 1000 * k);
            }
            x.flush();
            x.work(500);
            x.install();
            calls += 27;
        }
        for (; calls < 512; calls += 3) {
            if (kind == 1) {
                x.merge(0, 0);
                x.work(500);
                x.stop();
            } else if (kind == 2) {
                x.next(-1, 0);
                x.get(calls);
                x.check();
            } else {
                x.merge(calls % 3, 0);
                x.work(500);
                x.install();
            }
        }
    }

    /** Beyond 512 calls answers are free; this class still goes by the document there. */
    private static void longRun() {
        LevelStore x = new LevelStore();
        int number = 0;
        for (int round = 0; round < 2500; round++) {
            for (int k = 0; k < 24; k++) {
                number++;
                must(x.put((round * 24 + k) % 30, k) == number, "the write has number " + number);
            }
            x.flush();
            x.work(500);
            x.install();
            x.merge(0, 0);
            x.work(500);
            x.install();
        }
        must(number == 60000, "60000 writes");
        must(x.put(1, 1) == FULL, "a put of number 60001 is refused");
        must(x.drop(1) == FULL, "a drop of number 60001 is refused");
        must(x.count(2) == 60000, "the latest number is 60000");
        must(x.count(0) == 0, "the log is empty");
        must(x.check() == 0, "no file is broken");
    }
}
