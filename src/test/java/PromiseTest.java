// Each promise of the document by hand: ordinary inputs, the edges it names, and what is refused.
public final class PromiseTest {
    private static final int UNKNOWN = -1000001, BAD = -1000002, STATE = -1000003, FULL = -1000004, NONE = -1000009;
    private static final int[] NO_KEYS = {-1, 1000, Integer.MIN_VALUE, Integer.MAX_VALUE};
    private static final int[] NO_VIEWS = {-1, 3, Integer.MIN_VALUE, Integer.MAX_VALUE};
    private static final int[] NO_LEVELS = {-1, 4, Integer.MIN_VALUE, Integer.MAX_VALUE};

    private static int asked = 0;
    private static int wrong = 0;

    private static void due(String call, int got, int want) {
        asked++;
        if (got != want) {
            wrong++;
            System.out.println(call + " answered " + got + ", due is " + want);
        }
    }

    public static void main(String[] args) {
        newObject();
        putAndDrop();
        tableIsFull();
        syncAndCrash();
        crashTakesJobAndViews();
        numberBehindACrash();
        getNewestOfAll();
        views();
        nextKey();
        holdAndRelease();
        flushSnapshot();
        flushWithViews();
        mergeRefusals();
        mergeSources();
        mergeOfOneFile();
        mergeEndsFiles();
        mergeKeepsAKeyTogether();
        gravesInLastLevel();
        gravesAboveLastLevel();
        graveOverAValueInView();
        endsOnlyAheadOfKeptEntries();
        workRefusals();
        workFailsWhenFull();
        workFailsAheadOfTheNextKey();
        installRefusals();
        stopGivesNumbersBack();
        highLevels();
        toldOfFiles();
        toldOfEntries();
        bytesOfAFile();
        longShortNumbers();
        roomIsFoundFirst();
        bytesStay();
        exactRoom();
        toldOfLog();
        counts();
        checks();
        refusedChangesNothing();
        objectsAreApart();
        System.out.println(asked + " answers asked for, " + wrong + " not as due");
        if (wrong != 0) {
            System.exit(1);
        }
    }

    // ---- what the tests do often

    private static void finish(LevelStore x) {
        due("work(500)", x.work(500), 0);
        x.install();
    }

    private static void flushAll(LevelStore x) {
        x.flush();
        finish(x);
    }

    private static void mergeAll(LevelStore x, int level, int i) {
        x.merge(level, i);
        finish(x);
    }

    private static void putRange(LevelStore x, int from, int to, int value) {
        for (int key = from; key <= to; key++) {
            x.put(key, value);
        }
    }

    /** One file with a single entry of each key, in level 1, 2 or 3. */
    private static void sink(LevelStore x, int level, int... keys) {
        for (int key : keys) {
            x.put(key, key);
        }
        flushAll(x);
        mergeAll(x, 0, 0);
        for (int l = 1; l < level; l++) {
            int last = x.files(l) - 1;
            for (int i = 0; i <= last; i++) {
                if (x.file(l, i, 2) == keys[0]) {
                    mergeAll(x, l, i);
                    break;
                }
            }
        }
    }

    private static void dueFile(LevelStore x, int level, int i, int... keysAndNumbers) {
        String name = "file " + level + " " + i;
        due(name + " entries", x.file(level, i, 1), keysAndNumbers.length / 2);
        for (int k = 0; k * 2 < keysAndNumbers.length; k++) {
            due(name + " key " + k, x.entry(level, i, k, 0), keysAndNumbers[2 * k]);
            due(name + " number " + k, x.entry(level, i, k, 1), keysAndNumbers[2 * k + 1]);
        }
    }

    private static void dueBytes(LevelStore x, int at, int... bytes) {
        for (int k = 0; k < bytes.length; k++) {
            due("byteAt(" + (at + k) + ")", x.byteAt(at + k), bytes[k]);
        }
    }

    // ---- promise 1

    private static void newObject() {
        LevelStore x = new LevelStore();
        int[] counts = {0, 0, 0, 0, 0, NONE, 0, 0, 0};
        for (int what = 0; what < counts.length; what++) {
            due("new count(" + what + ")", x.count(what), counts[what]);
        }
        for (int level = 0; level < 4; level++) {
            due("new files(" + level + ")", x.files(level), 0);
        }
        for (int i = 0; i < 1500; i++) {
            due("new byteAt(" + i + ")", x.byteAt(i), 0);
        }
        for (int v = 0; v < 3; v++) {
            due("new release(" + v + ")", x.release(v), UNKNOWN);
        }
        due("new next", x.next(-1, 0), NONE);
        due("new get", x.get(0), NONE);
        due("new sync", x.sync(), 0);
        due("new crash", x.crash(0), 0);
        due("new high", x.high(), NONE);
        due("new check", x.check(), 0);
        due("new log", x.log(0, 0), BAD);
    }

    // ---- promises 2, 3

    private static void putAndDrop() {
        LevelStore x = new LevelStore();
        due("put(0, 100000)", x.put(0, 100000), 1);
        due("put(999, -100000)", x.put(999, -100000), 2);
        due("drop(999)", x.drop(999), 3);
        due("drop(500)", x.drop(500), 4);
        due("put(0, 0)", x.put(0, 0), 5);
        for (int key : NO_KEYS) {
            due("put(" + key + ", 0)", x.put(key, 0), BAD);
            due("drop(" + key + ")", x.drop(key), BAD);
        }
        for (int value : new int[] {100001, -100001, NONE, Integer.MIN_VALUE, Integer.MAX_VALUE}) {
            due("put(0, " + value + ")", x.put(0, value), BAD);
        }
        due("get(0)", x.get(0), 0);
        due("get(999)", x.get(999), NONE);
        due("count(2)", x.count(2), 5);
        due("count(0)", x.count(0), 5);
    }

    private static void tableIsFull() {
        LevelStore x = new LevelStore();
        for (int k = 1; k <= 24; k++) {
            due("put of one key", x.put(7, k), k);
        }
        due("put 25", x.put(7, 0), FULL);
        due("drop 25", x.drop(7), FULL);
        due("put bad ahead of full", x.put(1000, 0), BAD);
        due("put bad value ahead of full", x.put(0, 100001), BAD);
        due("drop bad ahead of full", x.drop(-1), BAD);
        due("get", x.get(7), 24);
        due("flush", x.flush(), 24);
        due("put while the flush is not installed", x.put(8, 8), FULL);
        due("work", x.work(500), 0);
        due("put while the flush is done", x.put(8, 8), FULL);
        due("install", x.install(), 1);
        due("put behind it", x.put(8, 8), 25);
        dueFile(x, 0, 0, 7, 24);
    }

    // ---- promises 4, 5

    private static void syncAndCrash() {
        LevelStore x = new LevelStore();
        putRange(x, 0, 4, 1);
        due("sync", x.sync(), 5);
        due("sync again", x.sync(), 0);
        putRange(x, 5, 8, 2);
        due("count(1)", x.count(1), 5);
        due("crash(-1)", x.crash(-1), BAD);
        due("crash(5)", x.crash(5), BAD);
        due("crash(max)", x.crash(Integer.MAX_VALUE), BAD);
        due("crash(min)", x.crash(Integer.MIN_VALUE), BAD);
        due("count(0)", x.count(0), 9);
        due("crash(2)", x.crash(2), 7);
        due("get(6)", x.get(6), 2);
        due("get(7)", x.get(7), NONE);
        due("count(2)", x.count(2), 7);
        due("kept ones are not synced by it", x.count(1), 5);
        due("crash(2) again", x.crash(2), 7);
        due("crash(1)", x.crash(1), 6);
        due("crash(0)", x.crash(0), 5);
        due("crash(1) of none", x.crash(1), BAD);
        due("sync", x.sync(), 0);
        due("number goes on", x.put(9, 9), 6);
        due("sync", x.sync(), 1);
    }

    private static void crashTakesJobAndViews() {
        LevelStore x = new LevelStore();
        putRange(x, 0, 2, 1);
        x.sync();
        for (int v = 0; v < 3; v++) {
            due("hold(" + v + ")", x.hold(v), 3);
        }
        flushAll(x);
        putRange(x, 3, 5, 1);
        x.flush();
        x.work(500);
        due("count(7)", x.count(7), 2);
        due("crash", x.crash(3), 3);
        due("count(5)", x.count(5), NONE);
        due("count(6)", x.count(6), 0);
        due("count(7)", x.count(7), 1);
        due("stop", x.stop(), STATE);
        due("install", x.install(), STATE);
        for (int v = 0; v < 3; v++) {
            due("view(" + v + ", 0)", x.view(v, 0), UNKNOWN);
        }
        due("hold(1)", x.hold(1), 6);
        due("files(0)", x.files(0), 1);
        due("flush", x.flush(), 3);
        finish(x);
        due("the gone file's room is taken", x.file(0, 1, 4), x.file(0, 0, 5));
        due("file number", x.file(0, 1, 0), 1);
    }

    private static void numberBehindACrash() {
        LevelStore x = new LevelStore();
        putRange(x, 0, 4, 1);
        flushAll(x);
        putRange(x, 5, 9, 1);
        due("crash(0)", x.crash(0), 0);
        due("greatest is in a file", x.count(2), 5);
        due("put", x.put(0, 2), 6);
        due("crash(1)", x.crash(1), 1);
        due("greatest is in the log", x.count(2), 6);
        due("get(0)", x.get(0), 2);
        x = new LevelStore();
        x.put(1, 1);
        x.put(2, 2);
        due("crash(0)", x.crash(0), 0);
        due("or 1", x.put(3, 3), 1);
        due("hold(0)", x.hold(0), 1);
    }

    // ---- promises 6, 7, 8, 9, 10

    private static void getNewestOfAll() {
        LevelStore x = new LevelStore();
        x.put(5, 1);
        flushAll(x);
        mergeAll(x, 0, 0);
        due("get from level 1", x.get(5), 1);
        x.put(5, 2);
        flushAll(x);
        due("get from level 0", x.get(5), 2);
        x.put(5, 3);
        flushAll(x);
        due("get from the later file", x.get(5), 3);
        x.put(5, 4);
        due("get from the table", x.get(5), 4);
        x.drop(5);
        due("get of a grave", x.get(5), NONE);
        x.crash(1);
        due("get behind a crash", x.get(5), 4);
        x.crash(0);
        due("get behind a crash", x.get(5), 3);
        due("get beside", x.get(4), NONE);
        due("get beside", x.get(6), NONE);
        for (int key : NO_KEYS) {
            due("get(" + key + ")", x.get(key), BAD);
        }
    }

    private static void views() {
        LevelStore x = new LevelStore();
        due("hold ahead of the first", x.hold(2), 0);
        x.put(5, 50);
        x.hold(0);
        x.put(5, 51);
        x.hold(1);
        x.drop(5);
        x.put(6, 60);
        due("view(2, 5)", x.view(2, 5), NONE);
        due("view(0, 5)", x.view(0, 5), 50);
        due("view(1, 5)", x.view(1, 5), 51);
        due("view(1, 6)", x.view(1, 6), NONE);
        flushAll(x);
        due("view(0, 5)", x.view(0, 5), 50);
        due("view(1, 5)", x.view(1, 5), 51);
        due("get(5)", x.get(5), NONE);
        for (int v : NO_VIEWS) {
            due("view(" + v + ", 5)", x.view(v, 5), UNKNOWN);
            due("unknown ahead of bad", x.view(v, 1000), UNKNOWN);
        }
        for (int key : NO_KEYS) {
            due("view(0, " + key + ")", x.view(0, key), BAD);
        }
        x.release(0);
        due("none ahead of bad", x.view(0, 1000), UNKNOWN);
        due("view of none", x.view(0, 5), UNKNOWN);
    }

    private static void nextKey() {
        LevelStore x = new LevelStore();
        x.put(10, 1);
        x.hold(0);
        x.put(999, 1);
        flushAll(x);
        x.drop(10);
        x.put(20, 0);
        due("next(-1, 0)", x.next(-1, 0), 20);
        due("next(-1, 20)", x.next(-1, 20), 20);
        due("next(-1, 21)", x.next(-1, 21), 999);
        due("next(-1, 999)", x.next(-1, 999), 999);
        due("next(0, 0)", x.next(0, 0), 10);
        due("next(0, 10)", x.next(0, 10), 10);
        due("next(0, 11)", x.next(0, 11), NONE);
        x.drop(999);
        due("next(-1, 21)", x.next(-1, 21), NONE);
        due("next(1, 0)", x.next(1, 0), UNKNOWN);
        for (int v : new int[] {-2, 3, 1, 2, Integer.MAX_VALUE, Integer.MIN_VALUE}) {
            due("next(" + v + ", 0)", x.next(v, 0), UNKNOWN);
            due("unknown ahead of bad", x.next(v, -1), UNKNOWN);
        }
        for (int key : NO_KEYS) {
            due("next(-1, " + key + ")", x.next(-1, key), BAD);
            due("next(0, " + key + ")", x.next(0, key), BAD);
        }
    }

    private static void holdAndRelease() {
        LevelStore x = new LevelStore();
        due("hold(0)", x.hold(0), 0);
        due("hold(0) again", x.hold(0), STATE);
        x.put(1, 1);
        due("hold(1)", x.hold(1), 1);
        due("hold(2)", x.hold(2), 1);
        for (int v : NO_VIEWS) {
            due("hold(" + v + ")", x.hold(v), UNKNOWN);
            due("release(" + v + ")", x.release(v), UNKNOWN);
        }
        x.put(1, 2);
        due("release(0)", x.release(0), 0);
        due("release(0) again", x.release(0), UNKNOWN);
        due("release(2)", x.release(2), 1);
        due("hold(2)", x.hold(2), 2);
        due("view(1, 1)", x.view(1, 1), 1);
        due("release(1)", x.release(1), 1);
    }

    // ---- promise 11

    private static void flushSnapshot() {
        LevelStore x = new LevelStore();
        due("flush of nothing", x.flush(), STATE);
        x.put(3, 1);
        x.put(1, 1);
        x.sync();
        due("flush", x.flush(), 2);
        due("flush again", x.flush(), STATE);
        x.put(0, 1);
        x.put(1, 2);
        x.sync();
        due("work", x.work(2), 0);
        due("still in the log", x.count(0), 4);
        due("get while it is done", x.get(1), 2);
        due("install", x.install(), 1);
        dueFile(x, 0, 0, 1, 2, 3, 1);
        due("count(0)", x.count(0), 2);
        due("count(1)", x.count(1), 2);
        due("log(0, 1)", x.log(0, 1), 3);
        due("log(1, 0)", x.log(1, 0), 1);
        due("get(1)", x.get(1), 2);
        due("get(3)", x.get(3), 1);
        due("crash(0)", x.crash(0), 2);
        due("flush", x.flush(), 2);
        finish(x);
        due("flush of an empty table", x.flush(), STATE);
        dueFile(x, 0, 1, 0, 3, 1, 4);
    }

    private static void flushWithViews() {
        LevelStore x = new LevelStore();
        x.put(5, 1);
        x.put(5, 2);
        x.hold(0);
        x.put(5, 3);
        x.put(5, 4);
        x.put(4, 5);
        due("flush", x.flush(), 5);
        due("release does not change the job", x.release(0), 2);
        due("hold does not change it", x.hold(1), 5);
        finish(x);
        dueFile(x, 0, 0, 4, 5, 5, 4, 5, 2);
        due("log is empty", x.count(0), 0);
        x.put(6, 1);
        x.hold(0);
        x.put(6, 2);
        x.flush();
        finish(x);
        dueFile(x, 0, 1, 6, 7, 6, 6);
    }

    // ---- promise 12

    private static void mergeRefusals() {
        LevelStore x = new LevelStore();
        due("merge of an empty level 0", x.merge(0, 0), STATE);
        due("merge(1, 0)", x.merge(1, 0), UNKNOWN);
        due("merge(2, 0)", x.merge(2, 0), UNKNOWN);
        due("merge(3, 0)", x.merge(3, 0), UNKNOWN);
        for (int level : NO_LEVELS) {
            due("merge(" + level + ", 0)", x.merge(level, 0), UNKNOWN);
        }
        sink(x, 1, 5);
        due("merge(1, 1)", x.merge(1, 1), UNKNOWN);
        due("merge(1, -1)", x.merge(1, -1), UNKNOWN);
        due("merge(0, 0) of none", x.merge(0, 0), STATE);
        due("merge(1, 0) without level 0", x.merge(1, 0), 1);
        due("there is a job", x.merge(1, 0), STATE);
        due("unknown ahead of state", x.merge(1, 1), UNKNOWN);
        due("unknown ahead of state", x.merge(3, 0), UNKNOWN);
        due("flush beside a merge", x.flush(), STATE);
        x.put(1, 1);
        due("flush beside a merge", x.flush(), STATE);
        x.stop();
        flushAll(x);
        due("i of level 0 is free", x.merge(0, -77), 1);
        due("stop", x.stop(), 0);
        due("i of level 0 is free", x.merge(0, Integer.MAX_VALUE), 1);
    }

    private static void mergeSources() {
        LevelStore x = new LevelStore();
        sink(x, 1, 10, 20);
        sink(x, 1, 30, 40);
        sink(x, 1, 50, 60);
        due("files(1)", x.files(1), 3);
        x.put(21, 1);
        flushAll(x);
        due("between two files", x.merge(0, 0), 1);
        x.stop();
        x.put(29, 1);
        flushAll(x);
        due("from 21 to 29", x.merge(0, 0), 2);
        x.stop();
        x.put(30, 1);
        flushAll(x);
        due("its least key", x.merge(0, 0), 5);
        x.stop();
        x.put(45, 1);
        flushAll(x);
        due("one file within", x.merge(0, 0), 6);
        finish(x);
        due("files(1)", x.files(1), 3);
        dueFile(x, 1, 1, 21, 7, 29, 8, 30, 9, 40, 4, 45, 10);
        dueFile(x, 1, 0, 10, 1, 20, 2);
        dueFile(x, 1, 2, 50, 5, 60, 6);
        x.put(20, 1);
        x.put(50, 1);
        flushAll(x);
        due("all of them", x.merge(0, 0), 11);
        x.stop();
        x = new LevelStore();
        sink(x, 1, 10, 90);
        x.put(50, 1);
        flushAll(x);
        due("keys reach over, though none is within", x.merge(0, 0), 3);
        finish(x);
        dueFile(x, 1, 0, 10, 1, 50, 3, 90, 2);
    }

    private static void mergeOfOneFile() {
        LevelStore x = new LevelStore();
        sink(x, 2, 30, 39);
        sink(x, 2, 10, 19);
        due("files(2)", x.files(2), 2);
        due("they stand by keys", x.file(2, 0, 2), 10);
        sink(x, 1, 5, 9);
        sink(x, 1, 19, 30);
        sink(x, 1, 40, 41);
        due("merge(1, 0)", x.merge(1, 0), 2);
        x.stop();
        due("merge(1, 2)", x.merge(1, 2), 2);
        x.stop();
        due("merge(1, 1)", x.merge(1, 1), 6);
        finish(x);
        due("files(1)", x.files(1), 2);
        due("the others stay", x.file(1, 0, 2), 5);
        due("the others stay", x.file(1, 1, 2), 40);
        dueFile(x, 2, 0, 10, 3, 19, 7, 30, 8, 39, 2);
        mergeAll(x, 1, 1);
        due("behind the last one", x.file(2, 1, 2), 40);
        mergeAll(x, 1, 0);
        due("ahead of the first one", x.file(2, 0, 2), 5);
        due("files(2)", x.files(2), 3);
        due("merge(2, 1)", x.merge(2, 1), 4);
        finish(x);
        due("files(3)", x.files(3), 1);
        dueFile(x, 3, 0, 10, 3, 19, 7, 30, 8, 39, 2);
        due("check", x.check(), 0);
    }

    private static void mergeEndsFiles() {
        LevelStore x = new LevelStore();
        putRange(x, 0, 16, 1);
        flushAll(x);
        due("a flush makes one file", x.file(0, 0, 1), 17);
        due("merge", x.merge(0, 0), 17);
        due("work(8)", x.work(8), 9);
        due("eight do not end it", x.count(6), 0);
        due("work(1)", x.work(1), 8);
        due("the ninth does", x.count(6), 1);
        due("work(7)", x.work(7), 1);
        due("count(6)", x.count(6), 1);
        due("work(1)", x.work(1), 0);
        due("the last file ends, too", x.count(6), 3);
        due("install", x.install(), 3);
        due("sizes", x.file(1, 0, 1), 8);
        due("sizes", x.file(1, 1, 1), 8);
        due("sizes", x.file(1, 2, 1), 1);
        due("least", x.file(1, 1, 2), 8);
        due("numbers", x.file(1, 0, 0), 1);
        due("numbers", x.file(1, 2, 0), 3);
    }

    private static void mergeKeepsAKeyTogether() {
        LevelStore x = new LevelStore();
        putRange(x, 0, 6, 1);
        x.put(7, 1);
        x.hold(0);
        x.put(7, 2);
        x.hold(1);
        x.put(7, 3);
        x.hold(2);
        x.put(7, 4);
        x.put(8, 1);
        flushAll(x);
        x.merge(0, 0);
        due("work(11)", x.work(11), 1);
        due("count(6)", x.count(6), 0);
        finish(x);
        due("files(1)", x.files(1), 2);
        due("eleven in one file", x.file(1, 0, 1), 11);
        due("greatest key", x.file(1, 0, 3), 7);
        dueFile(x, 1, 1, 8, 12);
        due("view(0, 7)", x.view(0, 7), 1);
        due("view(1, 7)", x.view(1, 7), 2);
        due("view(2, 7)", x.view(2, 7), 3);
        due("get(7)", x.get(7), 4);
    }

    // ---- left out

    private static void gravesInLastLevel() {
        LevelStore x = new LevelStore();
        sink(x, 3, 1, 2, 3);
        due("files(3)", x.files(3), 1);
        x.drop(2);
        x.drop(7);
        flushAll(x);
        mergeAll(x, 0, 0);
        mergeAll(x, 1, 0);
        due("graves come to level 2", x.file(2, 0, 1), 2);
        due("a file of graves reaches over", x.merge(2, 0), 5);
        finish(x);
        dueFile(x, 3, 0, 1, 1, 3, 3);
        due("get(2)", x.get(2), NONE);
        due("files(2)", x.files(2), 0);
    }

    private static void gravesAboveLastLevel() {
        LevelStore x = new LevelStore();
        x.drop(2);
        flushAll(x);
        dueFile(x, 0, 0, 2, 1);
        mergeAll(x, 0, 0);
        dueFile(x, 1, 0, 2, 1);
        mergeAll(x, 1, 0);
        dueFile(x, 2, 0, 2, 1);
        x.merge(2, 0);
        due("work", x.work(1), 0);
        due("no file is made", x.count(6), 0);
        due("install of none", x.install(), 0);
        due("count(3)", x.count(3), 0);
        x.drop(2);
        flushAll(x);
        dueFile(x, 0, 0, 2, 2);
    }

    private static void graveOverAValueInView() {
        LevelStore x = new LevelStore();
        x.put(5, 1);
        x.hold(0);
        x.drop(5);
        x.hold(1);
        x.drop(5);
        x.put(6, 1);
        x.hold(2);
        x.drop(6);
        flushAll(x);
        mergeAll(x, 0, 0);
        mergeAll(x, 1, 0);
        dueFile(x, 2, 0, 5, 3, 5, 2, 5, 1, 6, 5, 6, 4);
        mergeAll(x, 2, 0);
        dueFile(x, 3, 0, 5, 3, 5, 2, 5, 1, 6, 5, 6, 4);
        x.release(0);
        x.put(5, 9);
        x.hold(0);
        x.drop(5);
        flushAll(x);
        mergeAll(x, 0, 0);
        mergeAll(x, 1, 0);
        due("merge(2, 0)", x.merge(2, 0), 7);
        finish(x);
        // The value 9 is seen in view 0, so the grave ahead of it stays, and those behind it go.
        dueFile(x, 3, 0, 5, 7, 5, 6, 6, 5, 6, 4);
        due("view(0, 5)", x.view(0, 5), 9);
        due("view(1, 5)", x.view(1, 5), NONE);
        due("view(2, 6)", x.view(2, 6), 1);
        due("get(5)", x.get(5), NONE);
    }

    private static void endsOnlyAheadOfKeptEntries() {
        LevelStore x = new LevelStore();
        putRange(x, 0, 7, 1);
        flushAll(x);
        mergeAll(x, 0, 0);
        mergeAll(x, 1, 0);
        mergeAll(x, 2, 0);
        x.put(0, 2);
        x.drop(8);
        x.put(9, 2);
        flushAll(x);
        mergeAll(x, 0, 0);
        mergeAll(x, 1, 0);
        due("merge(2, 0)", x.merge(2, 0), 11);
        due("work(10)", x.work(10), 1);
        due("the grave was left out, and ended nothing", x.count(6), 0);
        due("work(1)", x.work(1), 0);
        due("count(6)", x.count(6), 2);
    }

    // ---- promises 13, 14, 15

    private static void workRefusals() {
        LevelStore x = new LevelStore();
        due("no job", x.work(1), STATE);
        due("bad ahead of state", x.work(0), BAD);
        x.put(1, 1);
        x.put(2, 2);
        x.flush();
        for (int n : new int[] {0, -1, 501, Integer.MIN_VALUE, Integer.MAX_VALUE}) {
            due("work(" + n + ")", x.work(n), BAD);
        }
        due("count(5)", x.count(5), 2);
        due("work(1)", x.work(1), 1);
        due("work(500)", x.work(500), 0);
        due("work of a done job", x.work(1), STATE);
        due("bad ahead of state", x.work(501), BAD);
        x.install();
        due("work behind it", x.work(1), STATE);
    }

    /** Nine files of 24 entries: some 250 bytes are left, too few for a merge of them all. */
    private static LevelStore crowded() {
        LevelStore x = new LevelStore();
        for (int f = 0; f < 9; f++) {
            for (int k = 0; k < 24; k++) {
                x.put(41 * k + f, 100000);
            }
            flushAll(x);
        }
        return x;
    }

    private static void workFailsWhenFull() {
        LevelStore x = crowded();
        int bytes = x.count(4);
        int number = x.count(7);
        due("files(0)", x.files(0), 9);
        due("merge", x.merge(0, 0), 216);
        due("some fit", x.work(27), 189);
        due("count(6)", x.count(6), 3);
        int laid = x.byteAt(bytes);
        due("a file's count lies behind the others", laid, 8);
        due("full", x.work(500), FULL);
        due("no job", x.count(5), NONE);
        due("count(6)", x.count(6), 0);
        due("numbers are given back", x.count(7), number);
        due("work", x.work(1), STATE);
        due("stop", x.stop(), STATE);
        due("bytes in force", x.count(4), bytes);
        due("what lay there stays", x.byteAt(bytes), laid);
        due("check", x.check(), 0);
        due("get", x.get(41), 100000);
        x.put(1, 1);
        x.flush();
        finish(x);
        due("the room is free again", x.file(0, 9, 4), bytes);
        for (int k = 0; k < 24; k++) {
            x.put(41 * k, 100000);
        }
        flushAll(x);
        for (int k = 0; k < 24; k++) {
            x.put(41 * k, 100000);
        }
        due("flush", x.flush(), 24);
        due("work(23)", x.work(23), 1);
        due("the last entry ends it", x.work(1), FULL);
        due("the log has all", x.count(0), 24);
        due("the table is still full", x.put(0, 0), FULL);
        due("flush", x.flush(), 24);
    }

    private static void workFailsAheadOfTheNextKey() {
        LevelStore x = crowded();
        x.merge(0, 0);
        int done = 0;
        int made = 0;
        for (; done < 216; done++) {
            int left = x.work(1);
            if (left == FULL) {
                break;
            }
            due("work(1)", left, 215 - done);
            made = x.count(6);
        }
        due("some were made", made > 2 && made < 20 ? 1 : 0, 1);
        due("it fails as the next file ends", done, 8 * (made + 1));
        due("count(5)", x.count(5), NONE);
    }

    private static void installRefusals() {
        LevelStore x = new LevelStore();
        due("no job", x.install(), STATE);
        x.put(1, 1);
        x.put(2, 2);
        x.flush();
        due("not begun", x.install(), STATE);
        x.work(1);
        due("not done", x.install(), STATE);
        due("count(5)", x.count(5), 1);
        x.work(1);
        due("files(0) ahead", x.files(0), 0);
        due("install", x.install(), 1);
        due("files(0)", x.files(0), 1);
        due("install again", x.install(), STATE);
        due("count(5)", x.count(5), NONE);
        due("count(6)", x.count(6), 0);
    }

    private static void stopGivesNumbersBack() {
        LevelStore x = new LevelStore();
        due("no job", x.stop(), STATE);
        putRange(x, 0, 19, 1);
        flushAll(x);
        x.merge(0, 0);
        due("work(18)", x.work(18), 2);
        due("count(7)", x.count(7), 3);
        due("stop", x.stop(), 2);
        due("count(7)", x.count(7), 1);
        due("stop again", x.stop(), STATE);
        due("files(0)", x.files(0), 1);
        due("files(1)", x.files(1), 0);
        x.merge(0, 0);
        x.work(500);
        due("stop of a done one", x.stop(), 3);
        due("merge again", x.merge(0, 0), 20);
        finish(x);
        due("number", x.file(1, 0, 0), 1);
        due("place", x.file(1, 0, 4), 20 * 3 + 2);
        due("nothing is left of the one stopped", x.file(1, 0, 2), 0);
        due("count(8)", x.count(8), 20);
        dueFile(x, 1, 2, 16, 17, 17, 18, 18, 19, 19, 20);
    }

    // ---- promises 16 to 19

    private static void highLevels() {
        LevelStore x = new LevelStore();
        for (int f = 0; f < 4; f++) {
            due("high with " + f, x.high(), NONE);
            x.put(f, 1);
            flushAll(x);
        }
        due("level 0 is high", x.high(), 0);
        mergeAll(x, 0, 0);
        due("none is", x.high(), NONE);
        for (int f = 1; f < 4; f++) {
            due("high with " + f, x.high(), NONE);
            sink(x, 1, 100 * f);
        }
        due("files(1)", x.files(1), 4);
        due("level 1 is high", x.high(), 1);
        for (int f = 0; f < 4; f++) {
            mergeAll(x, 1, 0);
        }
        due("files(2)", x.files(2), 4);
        due("high of 4", x.high(), NONE);
        sink(x, 2, 400);
        sink(x, 2, 500);
        due("high of 6", x.high(), NONE);
        sink(x, 2, 600);
        due("high of 7", x.high(), 2);
        for (int f = 0; f < 4; f++) {
            sink(x, 1, 700 + f);
        }
        due("the least one", x.high(), 1);
        for (int f = 0; f < 4; f++) {
            mergeAll(x, 1, 0);
        }
        for (int f = 0; f < 11; f++) {
            mergeAll(x, 2, 0);
        }
        due("files(3)", x.files(3), 11);
        due("level 3 never is", x.high(), NONE);
        for (int level : NO_LEVELS) {
            due("files(" + level + ")", x.files(level), UNKNOWN);
        }
    }

    private static void toldOfFiles() {
        LevelStore x = new LevelStore();
        x.put(900, 1);
        x.put(100, 1);
        flushAll(x);
        x.put(50, 1);
        flushAll(x);
        int[] first = {0, 2, 100, 900, 0, 9};
        int[] second = {1, 1, 50, 50, 9, 5};
        for (int what = 0; what < 6; what++) {
            due("file(0, 0, " + what + ")", x.file(0, 0, what), first[what]);
            due("file(0, 1, " + what + ")", x.file(0, 1, what), second[what]);
        }
        for (int level : NO_LEVELS) {
            due("file(" + level + ", 0, 0)", x.file(level, 0, 0), UNKNOWN);
        }
        for (int i : new int[] {-1, 2, Integer.MAX_VALUE, Integer.MIN_VALUE}) {
            due("file(0, " + i + ", 0)", x.file(0, i, 0), UNKNOWN);
            due("unknown ahead of bad", x.file(0, i, 9), UNKNOWN);
        }
        for (int what : new int[] {-1, 6, Integer.MAX_VALUE, Integer.MIN_VALUE}) {
            due("file(0, 0, " + what + ")", x.file(0, 0, what), BAD);
        }
        due("file(1, 0, 0)", x.file(1, 0, 0), UNKNOWN);
    }

    private static void toldOfEntries() {
        LevelStore x = new LevelStore();
        x.put(9, -5);
        x.drop(8);
        flushAll(x);
        int[] grave = {8, 2, NONE};
        int[] value = {9, 1, -5};
        for (int what = 0; what < 3; what++) {
            due("entry(0, 0, 0, " + what + ")", x.entry(0, 0, 0, what), grave[what]);
            due("entry(0, 0, 1, " + what + ")", x.entry(0, 0, 1, what), value[what]);
        }
        for (int k : new int[] {-1, 2, Integer.MAX_VALUE, Integer.MIN_VALUE}) {
            due("entry(0, 0, " + k + ", 0)", x.entry(0, 0, k, 0), BAD);
        }
        for (int what : new int[] {-1, 3, Integer.MAX_VALUE, Integer.MIN_VALUE}) {
            due("entry(0, 0, 0, " + what + ")", x.entry(0, 0, 0, what), BAD);
        }
        for (int level : NO_LEVELS) {
            due("unknown ahead of bad", x.entry(level, 0, -1, 9), UNKNOWN);
        }
        due("entry(0, 1, 0, 0)", x.entry(0, 1, 0, 0), UNKNOWN);
        due("entry(0, -1, 0, 0)", x.entry(0, -1, 0, 0), UNKNOWN);
        due("entry(1, 0, 9, 9)", x.entry(1, 0, 9, 9), UNKNOWN);
    }

    // ---- bytes and room, promise 20

    private static void bytesOfAFile() {
        LevelStore x = new LevelStore();
        x.put(300, -1);
        x.drop(2);
        x.put(2, 64);
        x.put(129, 63);
        x.hold(0);
        x.flush();
        x.work(3);
        due("nothing is laid ahead of the end", x.byteAt(0), 0);
        finish(x);
        // Key 2: the value of number 3 (the grave is in no view); 129: 127 on; 300: 171 on.
        int sum = 3 + 2 + 6 + 128 + 1 + 127 + 8 + 126 + (171 - 128 + 128) + 1 + 2 + 1;
        dueBytes(x, 0, 3, 2, 6, 128, 1, 127, 8, 126, 171, 1, 2, 1, sum % 251, 0);
        due("length", x.file(0, 0, 5), 13);
        for (int i : new int[] {-1, 1500, Integer.MAX_VALUE, Integer.MIN_VALUE}) {
            due("byteAt(" + i + ")", x.byteAt(i), BAD);
        }
        due("byteAt(1499)", x.byteAt(1499), 0);
        x.put(0, 0);
        x.put(1, 1);
        x.put(2, -2);
        flushAll(x);
        dueBytes(x, 13, 3, 0, 10, 0, 1, 12, 2, 1, 14, 3, 46);
    }

    private static void longShortNumbers() {
        LevelStore x = new LevelStore();
        for (int k = 1; k <= 63; k++) {
            if (k % 21 == 0) {
                x.crash(0);
                x.put(k, 0);
                flushAll(x);
            } else {
                x.put(k, 0);
                x.sync();
            }
        }
        due("count(2)", x.count(2), 63);
        int place = x.count(4);
        x.drop(999);
        x.put(999, 100000);
        x.put(0, -100000);
        flushAll(x);
        int at = x.file(0, 3, 4);
        due("place", at, place);
        // 2 * 66 = 4 + 128; 199999 = 63 + 128 * (26 + 128 * 12); 2 * 65 = 2 + 128; 200000 is one more.
        int[] coded = {2, 0, 132, 1, 191, 154, 12, 231, 7, 130, 1, 192, 154, 12};
        int sum = 0;
        for (int oneByte : coded) {
            sum += oneByte;
        }
        dueBytes(x, at, coded);
        due("sum", x.byteAt(at + coded.length), sum % 251);
        due("length", x.file(0, 3, 5), coded.length + 1);
        x.drop(128);
        flushAll(x);
        dueBytes(x, x.file(0, 4, 4), 1, 128, 1, 135, 1, (1 + 128 + 1 + 135 + 1) % 251);
        due("check", x.check(), 0);
    }

    private static void roomIsFoundFirst() {
        LevelStore x = new LevelStore();
        sink(x, 1, 1, 2, 3, 4);
        due("the merged one lies behind its source", x.file(1, 0, 4), 14);
        sink(x, 1, 500);
        due("the first room is free again", x.file(1, 1, 4), 7);
        x.put(900, 1);
        x.drop(901);
        flushAll(x);
        due("a longer one: 8 bytes do not go into 7", x.file(0, 0, 4), 28);
        x.put(910, 1);
        flushAll(x);
        due("a short one does", x.file(0, 1, 4), 0);
        due("count(4)", x.count(4), 14 + 7 + 8 + 6);
        due("check", x.check(), 0);
    }

    private static void bytesStay() {
        LevelStore x = new LevelStore();
        putRange(x, 1, 3, 9);
        x.flush();
        x.work(500);
        x.stop();
        dueBytes(x, 0, 3, 1, 2, 18, 1, 4, 18, 1, 6, 18, 72, 0);
        x.crash(0);
        x.drop(4);
        x.flush();
        x.work(500);
        x.crash(1);
        dueBytes(x, 0, 1, 4, 3, 8, 1, 4, 18, 1, 6, 18, 72, 0);
        due("files(0)", x.files(0), 0);
    }

    private static void exactRoom() {
        LevelStore x = new LevelStore();
        for (int f = 0; f < 8 && x.count(4) <= 1200; f++) {
            for (int k = 0; k < 24; k++) {
                x.put(999 - k, 100000);
            }
            flushAll(x);
        }
        // Numbers are above 63 now: a grave of a low key takes three bytes, and its file two more.
        for (int f = 0; f < 8 && 1500 - x.count(4) > 2 + 3 * 24; f++) {
            for (int k = 0; k < Math.min(20, (1500 - x.count(4)) / 3 - 5); k++) {
                x.drop(k);
            }
            flushAll(x);
        }
        int rest = 1500 - x.count(4) - 2;
        int over = rest % 3;
        for (int k = 0; k < rest / 3; k++) {
            if (k == 0 && over > 0) {
                x.put(k, over == 1 ? 0 : 64);
            } else {
                x.drop(k);
            }
        }
        due("flush", x.flush(), rest / 3);
        due("it fits to the last byte", x.work(500), 0);
        due("install", x.install(), 1);
        due("the field is full", x.count(4), 1500);
        x.drop(0);
        x.flush();
        due("no room for one more", x.work(1), FULL);
        due("count(0)", x.count(0), 1);
        due("check", x.check(), 0);
    }

    // ---- promises 21, 22, 23

    private static void toldOfLog() {
        LevelStore x = new LevelStore();
        x.put(9, -5);
        x.drop(8);
        int[] value = {9, 1, -5};
        int[] grave = {8, 2, NONE};
        for (int what = 0; what < 3; what++) {
            due("log(0, " + what + ")", x.log(0, what), value[what]);
            due("log(1, " + what + ")", x.log(1, what), grave[what]);
        }
        for (int wrongOne : new int[] {-1, 3, Integer.MAX_VALUE, Integer.MIN_VALUE}) {
            due("log(" + wrongOne + ", 0)", x.log(wrongOne, 0), BAD);
            due("log(0, " + wrongOne + ")", x.log(0, wrongOne), BAD);
        }
        due("log(2, 0)", x.log(2, 0), BAD);
    }

    private static void counts() {
        LevelStore x = new LevelStore();
        putRange(x, 0, 9, 1);
        flushAll(x);
        sink(x, 1, 500);
        putRange(x, 20, 22, 1);
        x.sync();
        x.put(23, 1);
        x.merge(1, 1);
        due("count(0)", x.count(0), 4);
        due("count(1)", x.count(1), 3);
        due("count(2)", x.count(2), 15);
        due("count(3)", x.count(3), 2);
        due("count(4)", x.count(4), 26 + 13);
        due("count(5)", x.count(5), 3);
        due("count(6)", x.count(6), 0);
        due("count(7)", x.count(7), 4);
        due("count(8)", x.count(8), 11);
        x.work(500);
        due("count(5) of a done one", x.count(5), 0);
        due("count(6)", x.count(6), 1);
        due("made ones are not in force", x.count(3), 2);
        due("count(7)", x.count(7), 5);
        for (int what : new int[] {-1, 9, Integer.MAX_VALUE, Integer.MIN_VALUE}) {
            due("count(" + what + ")", x.count(what), BAD);
        }
    }

    private static void checks() {
        LevelStore x = crowded();
        due("check", x.check(), 0);
        due("merge", x.merge(0, 0), 216);
        due("work", x.work(500), FULL);
        due("check behind a failed job", x.check(), 0);
    }

    // ---- what is refused changes nothing

    private static void refusedChangesNothing() {
        LevelStore x = crowded();
        x.put(3, 3);
        x.hold(0);
        x.sync();
        x.put(4, 4);
        x.merge(0, 0);
        x.work(10);
        int[] before = told(x);
        x.put(-1, 0);
        x.put(0, 100001);
        x.drop(1000);
        x.crash(2);
        x.crash(-1);
        x.get(1000);
        x.view(1, 0);
        x.view(0, -1);
        x.next(1, 0);
        x.next(0, 1000);
        x.hold(0);
        x.hold(3);
        x.release(1);
        x.flush();
        x.merge(0, 0);
        x.merge(1, 0);
        x.work(0);
        x.work(501);
        x.install();
        int[] after = told(x);
        for (int k = 0; k < before.length; k++) {
            due("told " + k, after[k], before[k]);
        }
        due("stop", x.stop(), 1);
        x.stop();
        x.install();
        x.work(1);
        before[5] = NONE;
        before[6] = 0;
        before[7] -= 1;
        after = told(x);
        for (int k = 0; k < before.length; k++) {
            due("told " + k, after[k], before[k]);
        }
    }

    private static int[] told(LevelStore x) {
        int[] told = new int[9 + 4 + 1500 + 3 + 2];
        int n = 0;
        for (int what = 0; what < 9; what++) {
            told[n++] = x.count(what);
        }
        for (int level = 0; level < 4; level++) {
            told[n++] = x.files(level);
        }
        for (int i = 0; i < 1500; i++) {
            told[n++] = x.byteAt(i);
        }
        for (int v = 0; v < 3; v++) {
            told[n++] = x.view(v, 3);
        }
        told[n++] = x.high();
        told[n++] = x.next(-1, 5);
        return told;
    }

    private static void objectsAreApart() {
        LevelStore x = new LevelStore();
        LevelStore y = new LevelStore();
        x.put(1, 1);
        x.hold(0);
        flushAll(x);
        due("count(2) of the other", y.count(2), 0);
        due("byteAt(0) of the other", y.byteAt(0), 0);
        due("get of the other", y.get(1), NONE);
        due("hold of the other", y.hold(0), 0);
    }
}
