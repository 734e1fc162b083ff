/** States in which refusals are tried, each as the steps that lead there. */
final class States {
    static final Telling.Steps[] ALL = {
        x -> { }, States::fullTable, States::allLevels, States::flushBegun, States::flushDone,
        States::mergeUnderWay, States::mergeDone, States::crowdedMerge,
    };

    /** The log's first 10 entries are synced, the other 14 are not; views 0 and 2 are held, view 1 is none. */
    static void fullTable(Store x) {
        x.put(5, 1);
        x.put(5, 2);
        x.hold(0);
        x.drop(5);
        x.putRange(10, 16, -3);
        x.sync();
        x.putRange(900, 912, 100000);
        x.hold(2);
        x.drop(999);
    }

    /** One file in each level, no entry in the log, no job, no view. */
    static void allLevels(Store x) {
        x.sink(3, 100, 200);
        x.sink(2, 150, 300);
        x.sink(1, 250, 400);
        x.put(350, 1);
        x.drop(100);
        x.flushAll();
    }

    /** A flush of 8 synced entries with nothing done, and 2 entries behind it; view 1 was 4 as it began, and is 10. */
    static void flushBegun(Store x) {
        x.putRange(40, 43, 1);
        x.hold(1);
        x.putRange(40, 43, 2);
        x.sync();
        x.flush();
        x.put(41, 3);
        x.drop(500);
        x.release(1);
        x.hold(1);
    }

    static void flushDone(Store x) {
        flushBegun(x);
        x.work(500);
    }

    /** 12 of 22 entries are done, one file is made; 3 entries in the log, 1 of them synced; view 0 is held. */
    static void mergeUnderWay(Store x) {
        x.sink(1, 10, 30);
        x.putRange(10, 19, 1);
        x.hold(0);
        x.flushAll();
        x.putRange(15, 24, 2);
        x.flushAll();
        x.put(1, 1);
        x.sync();
        x.put(2, 2);
        x.put(3, 3);
        x.merge(0, 0);
        x.work(12);
    }

    static void mergeDone(Store x) {
        mergeUnderWay(x);
        x.work(500);
    }

    /** Nine files in level 0: 1251 of the field's bytes, 24 entries each; no entry in the log. */
    static void crowded(Store x) {
        for (int f = 0; f < 9; f++) {
            for (int k = 0; k < 24; k++) {
                x.put(41 * k + f, 100000);
            }
            x.flushAll();
        }
    }

    /** Of 216 entries 27 are done, and three files are made; the room ends ahead of the rest. */
    static void crowdedMerge(Store x) {
        crowded(x);
        x.hold(1);
        x.merge(0, 0);
        x.work(27);
    }

    /** Ten files in level 0: 1397 bytes, with room for 103 behind them; the latest number is 240. */
    static void nearlyFullField(Store x) {
        crowded(x);
        for (int k = 0; k < 24; k++) {
            x.put(41 * k, 100000);
        }
        x.flushAll();
    }
}
