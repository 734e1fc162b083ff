// The terms, parts 1 and 4: keys, values, numbers, the log, the table, views, refusals.
public final class TermsTest extends Sentences {
    public static void main(String[] args) {
        keys();
        values();
        firstNumbers();
        lastNumber();
        graves();
        logInOrder();
        firstOnesAreSynced();
        tableByKeys();
        tableHas24();
        viewsAreBehindAWrite();
        viewsAreUpToANumber();
        greatestNumberIsRead();
        filesInForceAlone();
        graveOrNoEntry();
        refusalsByNumber();
        badAheadOfFull();
        unknownAheadOfBad();
        unknownAheadOfState();
        badAheadOfState();
        refusedWritesTakeNoNumber();
        lastCallOf512();
        objectsAreApart();
        end();
    }

    private static void keys() {
        sentence("1", "KEYS are 0 .. 999");
        Store x = new Store();
        due(x.put(-1, 7), BAD);
        due(x.put(0, 7), 1);
        due(x.put(999, 8), 2);
        due(x.put(1000, 8), BAD);
        due(x.get(0), 7);
        due(x.get(999), 8);
        due(x.next(-1, 0), 0);
        due(x.next(-1, 1), 999);
        x.hold(0);
        due(x.drop(0), 3);
        due(x.drop(999), 4);
        due(x.next(-1, 0), NONE);
        due(x.view(0, 0), 7);
        due(x.view(0, 999), 8);
        x.flushAll();
        dueEntries(x, 0, 0, 0, 3, 0, 1, 999, 4, 999, 2);
    }

    private static void values() {
        sentence("1", "VALUES -100000 .. 100000");
        Store x = new Store();
        due(x.put(1, -100001), BAD);
        due(x.put(1, -100000), 1);
        due(x.put(2, 100000), 2);
        due(x.put(2, 100001), BAD);
        due(x.log(0, 2), -100000);
        due(x.log(1, 2), 100000);
        x.flushAll();
        due(x.get(1), -100000);
        due(x.get(2), 100000);
        due(x.entry(0, 0, 0, 2), -100000);
        due(x.entry(0, 0, 1, 2), 100000);
        due(x.check(), 0);
    }

    private static void firstNumbers() {
        sentence("1", "A WRITE has the next NUMBER (1, 2, ..");
        Store x = new Store();
        due(x.count(2), 0);
        due(x.put(9, 9), 1);
        due(x.drop(9), 2);
        due(x.drop(9), 3);
        x.flushAll();
        due(x.put(0, 9), 4);
        due(x.count(2), 4);
    }

    private static void atTheLastNumber(Store x) {
        x.setLatestNumber(59998);
        x.put(3, -1);
        x.drop(4);
    }

    private static void lastNumber() {
        sentence("1", "up to 60000");
        Store x = new Store();
        x.setLatestNumber(59999);
        due(x.put(3, 5), 60000);
        due(x.put(3, 6), FULL);
        due(x.get(3), 5);
        due(x.hold(0), 60000);
        x = new Store();
        x.setLatestNumber(59999);
        due(x.drop(3), 60000);
        due(x.drop(3), FULL);
        refused(TermsTest::atTheLastNumber, y -> y.put(3, 1), FULL);
        refused(TermsTest::atTheLastNumber, y -> y.drop(3), FULL);
        x = new Store();
        atTheLastNumber(x);
        x.flushAll();
        due(x.put(3, 1), FULL);
        due(x.drop(3), FULL);
        dueEntries(x, 0, 0, 3, 59999, 4, 60000);
        // 2 * 59999 = 62 + 128 * (41 + 128 * 7), 2 * 60000 + 1 = 65 + 128 * (41 + 128 * 7).
        dueBytes(x, 0, 2, 3, 190, 169, 7, 1, 1, 193, 169, 7);
        due(x.check(), 0);
    }

    private static void graves() {
        sentence("1", "a GRAVE (the KEY is not there any more)");
        Store x = new Store();
        due(x.drop(5), 1);
        due(x.get(5), NONE);
        due(x.log(0, 2), NONE);
        due(x.put(5, 0), 2);
        due(x.get(5), 0);
        due(x.drop(5), 3);
        due(x.get(5), NONE);
        due(x.next(-1, 0), NONE);
        due(x.drop(5), 4);
        due(x.count(0), 4);
        due(x.put(5, 1), 5);
        due(x.next(-1, 0), 5);
    }

    private static void logInOrder() {
        sentence("1", "THE LOG has all ENTRIES that are in no FILE in force, in order");
        Store x = new Store();
        x.putAll(1, 9, 3, 9);
        x.flush();
        x.drop(3);
        x.work(500);
        due(x.count(0), 4);
        int[] keys = {9, 3, 9, 3};
        for (int k = 0; k < 4; k++) {
            due(x.log(k, 0), keys[k]);
            due(x.log(k, 1), k + 1);
        }
        x.install();
        due(x.count(0), 1);
        due(x.log(0, 0), 3);
        due(x.log(0, 1), 4);
        due(x.log(0, 2), NONE);
    }

    private static void firstOnesAreSynced() {
        sentence("1", "so many of the first ones are SYNCED");
        Store x = new Store();
        due(x.count(1), 0);
        x.putRange(0, 4, 1);
        due(x.count(1), 0);
        x.sync();
        x.putRange(5, 7, 1);
        due(x.count(1), 5);
        x.flush();
        x.work(500);
        due(x.count(1), 5);
        x.install();
        due(x.count(1), 0);
        x.putRange(0, 3, 1);
        x.flush();
        x.putRange(4, 5, 1);
        x.sync();
        x.put(6, 1);
        x.finishJob();
        due(x.count(0), 3);
        due(x.count(1), 2);
        due(x.crash(0), 2);
        due(x.log(0, 0), 4);
        due(x.log(1, 0), 5);
    }

    private static void tableByKeys() {
        sentence("1", "THE TABLE has the same ENTRIES, by KEYS, of one KEY the greatest NUMBER first");
        Store x = new Store();
        x.put(9, 1);
        x.hold(0);
        x.put(3, 1);
        x.hold(1);
        x.put(9, 2);
        x.put(999, 1);
        x.hold(2);
        x.put(3, 2);
        x.put(0, 1);
        due(x.flush(), 6);
        x.finishJob();
        dueEntries(x, 0, 0, 0, 6, 3, 5, 3, 2, 9, 3, 9, 1, 999, 4);
    }

    private static void tableHas24() {
        sentence("1", "at most 24");
        Store x = new Store();
        for (int k = 1; k <= 24; k++) {
            due(x.put(7, k), k);
        }
        due(x.put(7, 25), FULL);
        due(x.drop(8), FULL);
        due(x.count(0), 24);
        due(x.get(7), 24);
        due(x.flush(), 24);
        due(x.put(7, 25), FULL);
        due(x.work(500), 0);
        due(x.put(7, 25), FULL);
        x.install();
        due(x.put(7, 25), 25);
    }

    private static void viewsAreBehindAWrite() {
        sentence("1", "A VIEW 0 .. 2 is none, or a NUMBER: what is read in it is as it was behind that WRITE");
        Store x = new Store();
        due(x.view(0, 5), UNKNOWN);
        due(x.view(1, 5), UNKNOWN);
        due(x.view(2, 5), UNKNOWN);
        x.put(5, 50);
        x.hold(0);
        x.put(5, 51);
        x.hold(1);
        x.drop(5);
        x.hold(2);
        x.put(5, 53);
        dueFourStates(x);
        x.flushAll();
        dueFourStates(x);
        for (int level = 0; level < 3; level++) {
            x.mergeAll(level, 0);
            dueFourStates(x);
        }
        due(x.files(3), 1);
    }

    private static void dueFourStates(Store x) {
        due(x.view(0, 5), 50);
        due(x.view(1, 5), 51);
        due(x.view(2, 5), NONE);
        due(x.get(5), 53);
        due(x.next(1, 0), 5);
        due(x.next(2, 0), NONE);
    }

    private static void viewsAreUpToANumber() {
        sentence("1", "in a VIEW: of the ENTRIES up to its NUMBER");
        Store x = new Store();
        x.hold(0);
        x.put(5, 1);
        x.hold(1);
        due(x.view(0, 5), NONE);
        due(x.view(1, 5), 1);
        x.put(5, 2);
        x.put(6, 3);
        x.flushAll();
        due(x.view(0, 5), NONE);
        due(x.view(1, 5), 1);
        due(x.view(1, 6), NONE);
        due(x.next(1, 6), NONE);
        due(x.next(0, 0), NONE);
    }

    private static void greatestNumberIsRead() {
        sentence("1", "the VALUE of the ENTRY with the greatest NUMBER in THE TABLE and all FILES in force");
        Store x = new Store();
        for (int level = 3; level > 0; level--) {
            x.put(5, 10 * level);
            x.put(6 + level, level);
            x.sinkWritten(level, 5);
            due(x.get(5), 10 * level);
        }
        x.put(5, 7);
        x.flushAll();
        due(x.get(5), 7);
        x.put(5, 6);
        x.flushAll();
        due(x.get(5), 6);
        x.put(5, 5);
        x.put(5, 4);
        due(x.get(5), 4);
        x.crash(1);
        due(x.get(5), 5);
        x.crash(0);
        due(x.get(5), 6);
        for (int level = 1; level < 4; level++) {
            due(x.files(level), 1);
            due(x.get(6 + level), level);
        }
    }

    private static void filesInForceAlone() {
        sentence("1", "all FILES in force");
        Store x = new Store();
        x.put(5, 1);
        x.flush();
        x.work(500);
        x.crash(0);
        due(x.byteAt(0), 1);
        due(x.get(5), NONE);
        due(x.next(-1, 0), NONE);
        due(x.check(), 0);
    }

    private static void graveOrNoEntry() {
        sentence("1", "NONE, if that is a GRAVE, or there is none");
        Store x = new Store();
        due(x.get(5), NONE);
        x.put(5, 0);
        due(x.get(5), 0);
        due(x.get(4), NONE);
        due(x.get(6), NONE);
        x.sinkWritten(3, 5);
        x.drop(5);
        due(x.get(5), NONE);
        x.flushAll();
        due(x.get(5), NONE);
        x.mergeAll(0, 0);
        due(x.get(5), NONE);
        x.mergeAll(1, 0);
        due(x.get(5), NONE);
        due(x.count(8), 2);
        due(x.next(-1, 0), NONE);
    }

    private static void refusalsByNumber() {
        sentence("4", "UNKNOWN -1000001 (there is no such VIEW, FILE in force, LEVEL), BAD -1000002,"
            + " STATE -1000003, FULL -1000004");
        Store x = new Store();
        due(x.view(0, 0), -1000001);
        due(x.file(0, 0, 0), -1000001);
        due(x.files(4), -1000001);
        due(x.put(-1, 0), -1000002);
        due(x.flush(), -1000003);
        x.putRange(0, 23, 0);
        due(x.put(0, 0), -1000004);
        sentence("4", "NONE is -1000009");
        due(x.get(24), -1000009);
        due(x.high(), -1000009);
    }

    // ---- of several what is told first

    private static void badAheadOfFull() {
        sentence("4", "Of several what is told first");
        for (int key : NO_KEYS) {
            refused(States::fullTable, x -> x.put(key, 0), BAD);
            refused(States::fullTable, x -> x.drop(key), BAD);
            refused(TermsTest::atTheLastNumber, x -> x.put(key, 0), BAD);
            refused(TermsTest::atTheLastNumber, x -> x.drop(key), BAD);
        }
        for (int value : NO_VALUES) {
            refused(States::fullTable, x -> x.put(0, value), BAD);
            refused(TermsTest::atTheLastNumber, x -> x.put(0, value), BAD);
        }
    }

    private static void unknownAheadOfBad() {
        sentence("4", "Of several what is told first");
        for (int key : NO_KEYS) {
            refused(States::fullTable, x -> x.view(1, key), UNKNOWN);
            refused(States::fullTable, x -> x.view(3, key), UNKNOWN);
            refused(States::fullTable, x -> x.next(1, key), UNKNOWN);
            refused(States::fullTable, x -> x.next(-2, key), UNKNOWN);
        }
        for (int wrongOne : new int[] {-1, 6, MIN, MAX}) {
            refused(States::allLevels, x -> x.file(0, 1, wrongOne), UNKNOWN);
            refused(States::allLevels, x -> x.file(4, 0, wrongOne), UNKNOWN);
            refused(States::allLevels, x -> x.entry(0, 1, 0, wrongOne), UNKNOWN);
            refused(States::allLevels, x -> x.entry(0, 1, wrongOne, 0), UNKNOWN);
            refused(States::allLevels, x -> x.entry(4, 0, wrongOne, wrongOne), UNKNOWN);
        }
    }

    private static void unknownAheadOfState() {
        sentence("4", "Of several what is told first");
        refused(States::mergeUnderWay, x -> x.merge(-1, 0), UNKNOWN);
        refused(States::mergeUnderWay, x -> x.merge(3, 0), UNKNOWN);
        refused(States::mergeUnderWay, x -> x.merge(1, -1), UNKNOWN);
        refused(States::mergeUnderWay, x -> x.merge(1, 1), UNKNOWN);
        refused(States::mergeUnderWay, x -> x.merge(2, 0), UNKNOWN);
        refused(States::flushDone, x -> x.merge(1, 0), UNKNOWN);
        // Level 0 has no files, which is told of level 0 alone.
        refused(x -> { }, x -> x.merge(1, 0), UNKNOWN);
        refused(States::fullTable, x -> x.hold(3), UNKNOWN);
    }

    private static void badAheadOfState() {
        sentence("4", "Of several what is told first");
        for (int n : new int[] {0, 501}) {
            refused(States::fullTable, x -> x.work(n), BAD);
            refused(States::flushDone, x -> x.work(n), BAD);
        }
    }

    private static void refusedWritesTakeNoNumber() {
        sentence("4", "What is refused changes nothing");
        Store x = new Store();
        States.fullTable(x);
        x.put(1000, 0);
        x.put(0, 0);
        x.drop(0);
        x.flushAll();
        x.drop(-1);
        x.put(1, 100001);
        due(x.count(2), 24);
        due(x.put(1, 1), 25);
    }

    private static void lastCallOf512() {
        sentence("an object", "An object is used for at most 512 calls after it has been made");
        Store x = new Store();
        for (int k = 0; k < 127; k++) {
            due(x.put(k % 30, k), k + 1);
            due(x.flush(), 1);
            due(x.work(1), 0);
            due(x.install(), 1);
        }
        due(x.get(9), 99);
        due(x.check(), 0);
        due(x.count(7), 127);
        due(x.put(9, -1), 128);
        due(x.callsLeft(), 0);
    }

    private static void objectsAreApart() {
        sentence("1", "No ENTRIES, no FILES");
        Store x = new Store();
        Store y = new Store();
        x.put(1, 1);
        x.hold(0);
        x.flushAll();
        due(y.count(2), 0);
        due(y.count(7), 0);
        due(y.byteAt(0), 0);
        due(y.get(1), NONE);
        due(y.hold(0), 0);
    }
}
