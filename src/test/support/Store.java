import java.lang.reflect.Field;

/**
 * A LevelStore as the tests use it: it remembers the last call by name, and stops a test that makes
 * more than the 512 calls that the document binds.
 */
final class Store {
    private static final int MOST_CALLS = 512;
    private static String lastName = "none";
    private static int[] lastArguments = {};

    private final LevelStore store = new LevelStore();
    private int calls = 0;

    static String lastCall() {
        StringBuilder out = new StringBuilder(lastName).append('(');
        for (int k = 0; k < lastArguments.length; k++) {
            out.append(k == 0 ? "" : ", ").append(lastArguments[k]);
        }
        return out.append(')').toString();
    }

    int callsLeft() {
        return MOST_CALLS - calls;
    }

    private LevelStore asked(String name, int... arguments) {
        if (calls == MOST_CALLS) {
            throw new IllegalStateException("a test makes more than 512 calls on one object");
        }
        calls++;
        lastName = name;
        lastArguments = arguments;
        return store;
    }

    // ---- the face

    int put(int key, int value) {
        return asked("put", key, value).put(key, value);
    }

    int drop(int key) {
        return asked("drop", key).drop(key);
    }

    int sync() {
        return asked("sync").sync();
    }

    int crash(int keep) {
        return asked("crash", keep).crash(keep);
    }

    int get(int key) {
        return asked("get", key).get(key);
    }

    int view(int view, int key) {
        return asked("view", view, key).view(view, key);
    }

    int next(int view, int key) {
        return asked("next", view, key).next(view, key);
    }

    int hold(int view) {
        return asked("hold", view).hold(view);
    }

    int release(int view) {
        return asked("release", view).release(view);
    }

    int flush() {
        return asked("flush").flush();
    }

    int merge(int level, int i) {
        return asked("merge", level, i).merge(level, i);
    }

    int work(int n) {
        return asked("work", n).work(n);
    }

    int install() {
        return asked("install").install();
    }

    int stop() {
        return asked("stop").stop();
    }

    int high() {
        return asked("high").high();
    }

    int files(int level) {
        return asked("files", level).files(level);
    }

    int file(int level, int i, int what) {
        return asked("file", level, i, what).file(level, i, what);
    }

    int entry(int level, int i, int k, int what) {
        return asked("entry", level, i, k, what).entry(level, i, k, what);
    }

    int byteAt(int i) {
        return asked("byteAt", i).byteAt(i);
    }

    int log(int k, int what) {
        return asked("log", k, what).log(k, what);
    }

    int count(int what) {
        return asked("count", what).count(what);
    }

    int check() {
        return asked("check").check();
    }

    // ---- runs of calls that the tests make often

    void putAll(int value, int... keys) {
        for (int key : keys) {
            put(key, value);
        }
    }

    void putRange(int from, int to, int value) {
        for (int key = from; key <= to; key++) {
            put(key, value);
        }
    }

    void dropRange(int from, int to) {
        for (int key = from; key <= to; key++) {
            drop(key);
        }
    }

    void finishJob() {
        work(500);
        install();
    }

    void flushAll() {
        flush();
        finishJob();
    }

    void mergeAll(int level, int i) {
        merge(level, i);
        finishJob();
    }

    /** What has been written goes down into a level as one file that begins with that key. */
    void sinkWritten(int level, int leastKey) {
        flushAll();
        if (level > 0) {
            mergeAll(0, 0);
        }
        for (int l = 1; l < level; l++) {
            int i = 0;
            while (i < 50 && file(l, i, 2) != leastKey) {
                i++;
            }
            mergeAll(l, i);
        }
    }

    /** A file of these keys, each with itself as its value; the keys are told by size. */
    void sink(int level, int... keys) {
        for (int key : keys) {
            put(key, key);
        }
        sinkWritten(level, keys[0]);
    }

    /** Writes of one key alone, till that is the latest number: they come to short files. */
    void writeUpTo(int number) {
        for (int k = 1; k <= number; k++) {
            put(0, 0);
            if (k % 24 == 0 || k == number) {
                flushAll();
            }
        }
    }

    // ---- from outside, where no run of 512 calls can lead

    void setLatestNumber(int number) {
        try {
            Field latest = LevelStore.class.getDeclaredField("latest");
            latest.setAccessible(true);
            latest.setInt(store, number);
        } catch (ReflectiveOperationException e) {
            throw new IllegalStateException("the class has no latest number to be set", e);
        }
    }

    void setByte(int i, int value) {
        try {
            Field field = LevelStore.class.getDeclaredField("field");
            field.setAccessible(true);
            Object inside = field.get(store);
            Field bytes = inside.getClass().getDeclaredField("bytes");
            bytes.setAccessible(true);
            ((int[]) bytes.get(inside))[i] = value;
        } catch (ReflectiveOperationException e) {
            throw new IllegalStateException("the class has no field of bytes to be set", e);
        }
    }
}
