// Promises 1 to 5: a new object, put, drop, sync, crash.
public final class WritingTest extends Sentences {
    public static void main(String[] args) {
        newObject();
        putANumber();
        putBadKey();
        putBadValue();
        putIntoAFullTable();
        putBehindTheLastNumber();
        dropANumber();
        dropBad();
        dropFull();
        syncAll();
        syncNone();
        crashAnswers();
        crashBad();
        crashBadByOne();
        crashWithoutAnything();
        end();
    }

    // ---- promise 1

    private static void newObject() {
        sentence("1 a new object", "No ENTRIES, no FILES");
        Store x = new Store();
        int[] counts = {0, 0, 0, 0, 0, NONE, 0, 0, 0};
        for (int what = 0; what < counts.length; what++) {
            due(x.count(what), counts[what]);
        }
        for (int level = 0; level < 4; level++) {
            due(x.files(level), 0);
            due(x.file(level, 0, 0), UNKNOWN);
            due(x.entry(level, 0, 0, 0), UNKNOWN);
        }
        for (int v = 0; v < 3; v++) {
            due(x.release(v), UNKNOWN);
        }
        due(x.log(0, 0), BAD);
        due(x.next(-1, 0), NONE);
        due(x.get(0), NONE);
        due(x.get(999), NONE);
        due(x.high(), NONE);
        due(x.check(), 0);
        due(x.flush(), STATE);
        due(x.merge(0, 0), STATE);
        due(x.work(1), STATE);
        due(x.install(), STATE);
        due(x.stop(), STATE);
    }

    // ---- promise 2

    private static void putANumber() {
        sentence("2 put", "A WRITE of a VALUE: its NUMBER");
        Store x = new Store();
        due(x.put(0, 100000), 1);
        due(x.put(999, -100000), 2);
        due(x.put(0, 0), 3);
        due(x.get(0), 0);
        due(x.get(999), -100000);
        due(x.count(0), 3);
        x.flush();
        due(x.put(5, 5), 4);
        due(x.get(5), 5);
    }

    private static void putBadKey() {
        sentence("2 put", "BAD: key");
        for (int key : NO_KEYS) {
            refusedInEveryState(x -> x.put(key, 0), BAD);
            refused(States::fullTable, x -> x.put(key, 100001), BAD);
        }
    }

    private static void putBadValue() {
        sentence("2 put", "BAD: key, value");
        for (int value : NO_VALUES) {
            refusedInEveryState(x -> x.put(5, value), BAD);
        }
    }

    private static void putIntoAFullTable() {
        sentence("2 put", "FULL: THE TABLE has 24 ENTRIES");
        refused(States::fullTable, x -> x.put(5, 0), FULL);
        refused(States::fullTable, x -> x.put(999, -100000), FULL);
        // A flush does not empty the table till it is installed.
        refused(WritingTest::fullTableInAFlush, x -> x.put(5, 0), FULL);
        Store x = new Store();
        x.putRange(0, 22, 1);
        due(x.put(23, 1), 24);
        due(x.put(23, 1), FULL);
        x.flushAll();
        due(x.put(23, 1), 25);
    }

    private static void fullTableInAFlush(Store x) {
        States.fullTable(x);
        x.flush();
        x.work(500);
    }

    private static void putBehindTheLastNumber() {
        sentence("2 put", "the NUMBER would be above 60000");
        refused(WritingTest::lastNumber, x -> x.put(5, 0), FULL);
        Store x = new Store();
        lastNumber(x);
        // Behind a crash there are numbers again.
        due(x.crash(0), 0);
        due(x.put(5, 0), 1);
    }

    private static void lastNumber(Store x) {
        x.setLatestNumber(59999);
        x.put(6, 1);
    }

    // ---- promise 3

    private static void dropANumber() {
        sentence("3 drop", "A WRITE of a GRAVE: its NUMBER");
        Store x = new Store();
        due(x.drop(999), 1);
        due(x.put(0, 1), 2);
        due(x.drop(0), 3);
        due(x.drop(0), 4);
        due(x.get(0), NONE);
        due(x.count(0), 4);
        due(x.log(3, 0), 0);
        due(x.log(3, 2), NONE);
    }

    private static void dropBad() {
        sentence("3 drop", "BAD");
        for (int key : NO_KEYS) {
            refusedInEveryState(x -> x.drop(key), BAD);
        }
    }

    private static void dropFull() {
        sentence("3 drop", "FULL");
        refused(States::fullTable, x -> x.drop(5), FULL);
        refused(WritingTest::fullTableInAFlush, x -> x.drop(999), FULL);
        refused(WritingTest::lastNumber, x -> x.drop(5), FULL);
        Store x = new Store();
        x.dropRange(0, 22);
        due(x.drop(0), 24);
        due(x.drop(0), FULL);
    }

    // ---- promise 4

    private static void syncAll() {
        sentence("4 sync", "All ENTRIES of THE LOG are SYNCED: how many were not");
        Store x = new Store();
        States.fullTable(x);
        due(x.count(1), 10);
        due(x.sync(), 14);
        due(x.count(1), 24);
        due(x.crash(0), 24);
        due(x.get(900), 100000);
        x = new Store();
        States.flushBegun(x);
        due(x.sync(), 2);
        x.finishJob();
        due(x.count(1), 2);
        due(x.sync(), 0);
    }

    private static void syncNone() {
        sentence("4 sync", "how many were not");
        Store x = new Store();
        due(x.sync(), 0);
        x.put(1, 1);
        due(x.sync(), 1);
        due(x.sync(), 0);
        x.flushAll();
        due(x.sync(), 0);
        x.put(1, 1);
        due(x.crash(1), 1);
        due(x.sync(), 1);
    }

    // ---- promise 5

    private static void crashAnswers() {
        sentence("5 crash", "A CRASH: how many ENTRIES THE LOG has then");
        Store x = new Store();
        due(x.crash(0), 0);
        x.putRange(0, 4, 1);
        due(x.crash(5), 5);
        due(x.crash(4), 4);
        x.sync();
        due(x.crash(0), 4);
        x.putRange(0, 2, 1);
        due(x.crash(1), 5);
        due(x.crash(0), 4);
        x.flushAll();
        due(x.crash(0), 0);
        due(x.count(3), 1);
    }

    private static void crashBad() {
        sentence("5 crash", "BAD: keep is not 0 .. how many are not SYNCED");
        for (int keep : new int[] {-1, 25, MIN, MAX}) {
            refusedInEveryState(x -> x.crash(keep), BAD);
        }
    }

    private static void crashBadByOne() {
        sentence("5 crash", "how many are not SYNCED");
        refused(States::fullTable, x -> x.crash(15), BAD);
        refused(States::flushBegun, x -> x.crash(3), BAD);
        refused(States::flushDone, x -> x.crash(3), BAD);
        refused(States::mergeUnderWay, x -> x.crash(3), BAD);
        refused(States::mergeDone, x -> x.crash(3), BAD);
        Store x = new Store();
        States.fullTable(x);
        due(x.crash(14), 24);
        due(x.crash(15), BAD);
        due(x.crash(14), 24);
    }

    private static void crashWithoutAnything() {
        sentence("5 crash", "keep is not 0 .. how many are not SYNCED");
        refused(x -> { }, x -> x.crash(1), BAD);
        refused(States::allLevels, x -> x.crash(1), BAD);
        refused(WritingTest::allSynced, x -> x.crash(1), BAD);
        Store x = new Store();
        allSynced(x);
        due(x.crash(0), 3);
    }

    private static void allSynced(Store x) {
        x.putRange(0, 2, 1);
        x.sync();
    }
}
