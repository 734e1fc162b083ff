import com.sun.management.ThreadMXBean;
import java.lang.management.ManagementFactory;
import java.util.Random;

// What runs of calls make stays far below the one room they live in, and no call throws.
public final class RoomTest {
    private static final int[] EDGES = {
        Integer.MIN_VALUE, Integer.MIN_VALUE + 1, -1000009, -100001, -100000, 24, 500, 501, 999, 1000, 1499, 1500, 100000,
        100001, Integer.MAX_VALUE - 1, Integer.MAX_VALUE,
    };
    // The room has 7.3 million fields and elements; four bytes or more each.
    private static final long RUN_BYTES = 2_000_000;

    private static int wrong = 0;

    private static void must(boolean holds, String what) {
        if (!holds) {
            wrong++;
            System.out.println("not so: " + what);
        }
    }

    public static void main(String[] args) {
        must(allocatedBy(0) >= 0, "this machine counts what is allocated");
        for (int kind = 0; kind < 4; kind++) {
            long bytes = allocatedBy(kind);
            System.out.println("run " + kind + " allocated " + bytes + " bytes");
            must(bytes < RUN_BYTES, "run " + kind + " allocates less than " + RUN_BYTES + " bytes");
        }
        longRun();
        for (int seed = 0; seed < 100; seed++) {
            wildRun(new Random(seed));
        }
        System.out.println(wrong == 0 ? "the room is kept" : wrong + " are not so");
        if (wrong != 0) {
            System.exit(1);
        }
    }

    private static long allocatedBy(int kind) {
        ThreadMXBean bean = (ThreadMXBean) ManagementFactory.getThreadMXBean();
        long before = bean.getThreadAllocatedBytes(Thread.currentThread().getId());
        run(kind);
        return bean.getThreadAllocatedBytes(Thread.currentThread().getId()) - before;
    }

    private static void run(int kind) {
        LevelStore x = new LevelStore();
        int calls = 0;
        if (kind == 0) {
            for (; calls < 512; calls += 4) {
                x.drop(calls % 100);
                x.flush();
                x.work(500);
                x.install();
            }
            return;
        }
        for (int f = 0; f < 5; f++) {
            for (int k = 0; k < 24; k++) {
                x.put(41 * k + f, 1000 * k);
            }
            x.flush();
            x.work(500);
            x.install();
            calls += 27;
        }
        for (; calls < 512; calls += 3) {
            if (kind == 1) {
                x.merge(0, 0);
                x.work(500);
                x.stop();
            } else if (kind == 2) {
                x.next(-1, 0);
                x.get(calls);
                x.check();
            } else {
                x.merge(calls % 3, 0);
                x.work(500);
                x.install();
            }
        }
    }

    /** Beyond 512 calls answers are free; a call still never throws: that alone would end this test. */
    private static void longRun() {
        LevelStore x = new LevelStore();
        for (int round = 0; round < 2600; round++) {
            for (int k = 0; k < 24; k++) {
                x.put((round * 24 + k) % 30, k);
            }
            x.flush();
            x.work(500);
            x.install();
            x.merge(0, 0);
            x.work(500);
            x.install();
        }
    }

    /** Any call with any arguments in any state. */
    private static void wildRun(Random random) {
        LevelStore x = new LevelStore();
        for (int k = 0; k < 20000; k++) {
            int a = wild(random);
            int b = wild(random);
            int c = wild(random);
            switch (random.nextInt(30)) {
                case 0: x.sync(); break;
                case 1: x.crash(a); break;
                case 2: x.get(a); break;
                case 3: x.view(a, b); break;
                case 4: x.next(a, b); break;
                case 5: x.hold(a); break;
                case 6: x.release(a); break;
                case 7: x.flush(); break;
                case 8: case 9: x.merge(a, b); break;
                case 10: case 11: x.work(a); break;
                case 12: case 13: x.install(); break;
                case 14: x.stop(); break;
                case 15: x.high(); break;
                case 16: x.files(a); break;
                case 17: x.file(a, b, c); break;
                case 18: x.entry(a, b, c, wild(random)); break;
                case 19: x.byteAt(a); break;
                case 20: x.log(a, b); break;
                case 21: x.count(a); break;
                case 22: x.check(); break;
                case 23: case 24: x.drop(a); break;
                default: x.put(a, b);
            }
        }
    }

    private static int wild(Random random) {
        switch (random.nextInt(8)) {
            case 0: return EDGES[random.nextInt(EDGES.length)];
            case 1: return random.nextInt();
            case 2: case 3: return random.nextInt(1000);
            default: return random.nextInt(6) - 1;
        }
    }
}
