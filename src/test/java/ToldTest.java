import java.util.Arrays;

// Promises 16 to 23: high, files, file, entry, byteAt, log, count, check.
public final class ToldTest extends Sentences {
    public static void main(String[] args) {
        leastHighLevel();
        highNone();
        howManyFiles();
        filesUnknown();
        fileIsTold();
        fileOfEachLevel();
        fileUnknownLevel();
        fileUnknownFile();
        fileBad();
        entryIsTold();
        entryUnknown();
        entryBadK();
        entryBadWhat();
        byteIsTold();
        byteBad();
        logIsTold();
        logBadK();
        logBadWhat();
        countIsTold();
        countOfAJob();
        countBad();
        checkOfNone();
        checkOfSpoiltFiles();
        checkOfAnotherFile();
        checkOfFilesInForce();
        end();
    }

    // ---- promise 16

    private static void leastHighLevel() {
        sentence("16 high", "The least LEVEL that is HIGH");
        Store x = new Store();
        for (int f = 0; f < 7; f++) {
            x.sink(2, 100 * f);
        }
        due(x.high(), 2);
        for (int f = 0; f < 4; f++) {
            x.sink(1, 100 * f + 50);
        }
        due(x.high(), 1);
        for (int f = 0; f < 4; f++) {
            due(x.high(), 1);
            x.put(999, 1);
            x.flushAll();
        }
        due(x.high(), 0);
        x.mergeAll(0, 0);
        due(x.high(), 1);
    }

    private static void highNone() {
        sentence("16 high", "NONE");
        Store x = new Store();
        due(x.high(), NONE);
        for (int f = 0; f < 6; f++) {
            x.sink(2, 100 * f);
        }
        for (int f = 0; f < 3; f++) {
            x.sink(1, 100 * f + 50);
        }
        for (int f = 0; f < 3; f++) {
            x.put(999, 1);
            x.flushAll();
        }
        due(x.files(0) + x.files(1) + x.files(2), 12);
        due(x.high(), NONE);
        // A file that is made, but not in force, does not make a level high.
        x.put(998, 1);
        x.flush();
        x.work(500);
        due(x.high(), NONE);
        x.install();
        due(x.high(), 0);
    }

    // ---- promise 17

    private static void howManyFiles() {
        sentence("17 files", "How many FILES a LEVEL has");
        Store x = new Store();
        for (int level = 0; level < 4; level++) {
            due(x.files(level), 0);
        }
        States.allLevels(x);
        for (int level = 0; level < 4; level++) {
            due(x.files(level), 1);
        }
        x = new Store();
        States.mergeDone(x);
        due(x.files(0), 2);
        due(x.files(1), 1);
        x.install();
        due(x.files(0), 0);
        due(x.files(1), 3);
    }

    private static void filesUnknown() {
        sentence("17 files", "UNKNOWN");
        for (int level : NO_LEVELS) {
            refusedInEveryState(x -> x.files(level), UNKNOWN);
        }
    }

    // ---- promise 18

    private static void fileIsTold() {
        sentence("18 file", "FILE i of a LEVEL (LEVEL 0: the earliest first): its number (what = 0), ENTRIES (1), its least KEY (2),"
            + " greatest KEY (3), where it lies in THE FIELD (4), how many bytes (5)");
        Store x = new Store();
        x.putAll(1, 999, 100);
        x.flushAll();
        x.put(0, 1);
        x.flushAll();
        int[] first = {0, 2, 100, 999, 0, 9};
        int[] second = {1, 1, 0, 0, 9, 5};
        for (int what = 0; what < 6; what++) {
            due(x.file(0, 0, what), first[what]);
            due(x.file(0, 1, what), second[what]);
        }
    }

    private static void fileOfEachLevel() {
        sentence("18 file", "FILE i of a LEVEL");
        Store x = new Store();
        States.allLevels(x);
        int[] least = {100, 250, 150, 100};
        int[] greatest = {350, 400, 300, 200};
        for (int level = 0; level < 4; level++) {
            due(x.file(level, 0, 1), 2);
            due(x.file(level, 0, 2), least[level]);
            due(x.file(level, 0, 3), greatest[level]);
        }
    }

    private static void fileUnknownLevel() {
        sentence("18 file", "UNKNOWN");
        for (int level : NO_LEVELS) {
            refusedInEveryState(x -> x.file(level, 0, 0), UNKNOWN);
            refusedInEveryState(x -> x.file(level, 0, 6), UNKNOWN);
        }
    }

    private static void fileUnknownFile() {
        sentence("18 file", "UNKNOWN");
        for (int level = 0; level < 4; level++) {
            int l = level;
            for (int i : new int[] {-1, 1, MIN, MAX}) {
                refused(States::allLevels, x -> x.file(l, i, 0), UNKNOWN);
                refused(States::allLevels, x -> x.file(l, i, -1), UNKNOWN);
            }
            refused(States::fullTable, x -> x.file(l, 0, 0), UNKNOWN);
        }
        // Made, but not in force.
        refused(States::flushDone, x -> x.file(0, 0, 0), UNKNOWN);
        refused(States::mergeDone, x -> x.file(1, 1, 0), UNKNOWN);
    }

    private static void fileBad() {
        sentence("18 file", "BAD");
        for (int level = 0; level < 4; level++) {
            int l = level;
            for (int what : new int[] {-1, 6, MIN, MAX}) {
                refused(States::allLevels, x -> x.file(l, 0, what), BAD);
            }
        }
    }

    // ---- promise 19

    private static void entryIsTold() {
        sentence("19 entry", "ENTRY k of a FILE: its KEY (what = 0), NUMBER (1), VALUE (2; a GRAVE: NONE)");
        Store x = new Store();
        x.put(999, -100000);
        x.drop(0);
        x.put(5, 0);
        x.flushAll();
        int[][] entries = {{0, 2, NONE}, {5, 3, 0}, {999, 1, -100000}};
        for (int level = 0; level < 3; level++) {
            for (int k = 0; k < 3; k++) {
                for (int what = 0; what < 3; what++) {
                    due(x.entry(level, 0, k, what), entries[k][what]);
                }
            }
            x.mergeAll(level, 0);
        }
        for (int what = 0; what < 3; what++) {
            due(x.entry(3, 0, 0, what), entries[1][what]);
            due(x.entry(3, 0, 1, what), entries[2][what]);
        }
    }

    private static void entryUnknown() {
        sentence("19 entry", "UNKNOWN");
        for (int level : NO_LEVELS) {
            refusedInEveryState(x -> x.entry(level, 0, 0, 0), UNKNOWN);
            refusedInEveryState(x -> x.entry(level, 0, -1, 3), UNKNOWN);
        }
        for (int level = 0; level < 4; level++) {
            int l = level;
            for (int i : new int[] {-1, 1, MIN, MAX}) {
                refused(States::allLevels, x -> x.entry(l, i, 0, 0), UNKNOWN);
                refused(States::allLevels, x -> x.entry(l, i, 2, 3), UNKNOWN);
            }
        }
        refused(States::flushDone, x -> x.entry(0, 0, 0, 0), UNKNOWN);
    }

    private static void entryBadK() {
        sentence("19 entry", "BAD: k");
        for (int level = 0; level < 4; level++) {
            int l = level;
            for (int k : new int[] {-1, 2, MIN, MAX}) {
                refused(States::allLevels, x -> x.entry(l, 0, k, 0), BAD);
                refused(States::allLevels, x -> x.entry(l, 0, k, 3), BAD);
            }
        }
    }

    private static void entryBadWhat() {
        sentence("19 entry", "BAD: k, what");
        for (int level = 0; level < 4; level++) {
            int l = level;
            for (int what : new int[] {-1, 3, MIN, MAX}) {
                refused(States::allLevels, x -> x.entry(l, 0, 1, what), BAD);
            }
        }
    }

    // ---- promise 20

    private static void byteIsTold() {
        sentence("20 byteAt", "Byte i of THE FIELD");
        Store x = new Store();
        due(x.byteAt(0), 0);
        due(x.byteAt(1499), 0);
        x.put(200, -1);
        x.flushAll();
        dueBytes(x, 0, 1, 200, 1, 2, 1, 205, 0);
        x = new Store();
        States.nearlyFullField(x);
        x.putRange(0, 15, 100000);
        x.put(16, 8191);
        x.flushAll();
        // Twice 257, 8191 folded, and the sum: 17 + 16 + 3911 + 16 * 358 + 381 = 10053.
        dueBytes(x, 1495, 130, 4, 254, 127, 10053 % 251);
    }

    private static void byteBad() {
        sentence("20 byteAt", "BAD");
        for (int i : new int[] {-1, 1500, MIN, MAX}) {
            refusedInEveryState(x -> x.byteAt(i), BAD);
        }
    }

    // ---- promise 21

    private static void logIsTold() {
        sentence("21 log", "ENTRY k of THE LOG: KEY (what = 0), NUMBER (1), VALUE (2; a GRAVE: NONE)");
        Store x = new Store();
        x.put(999, -100000);
        x.drop(0);
        x.put(5, 0);
        int[][] entries = {{999, 1, -100000}, {0, 2, NONE}, {5, 3, 0}};
        for (int k = 0; k < 3; k++) {
            for (int what = 0; what < 3; what++) {
                due(x.log(k, what), entries[k][what]);
            }
        }
        x = new Store();
        States.fullTable(x);
        due(x.log(23, 0), 999);
        due(x.log(23, 1), 24);
        due(x.log(23, 2), NONE);
    }

    private static void logBadK() {
        sentence("21 log", "BAD");
        for (int k : new int[] {-1, 24, MIN, MAX}) {
            refusedInEveryState(x -> x.log(k, 0), BAD);
        }
        refused(x -> { }, x -> x.log(0, 0), BAD);
        refused(States::allLevels, x -> x.log(0, 0), BAD);
        refused(States::flushBegun, x -> x.log(10, 0), BAD);
        refused(States::mergeDone, x -> x.log(3, 2), BAD);
    }

    private static void logBadWhat() {
        sentence("21 log", "BAD");
        for (int what : new int[] {-1, 3, MIN, MAX}) {
            refusedInEveryState(x -> x.log(0, what), BAD);
            refused(States::fullTable, x -> x.log(23, what), BAD);
        }
    }

    // ---- promise 22

    private static void dueCounts(Store x, int... counts) {
        for (int what = 0; what < counts.length; what++) {
            due(x.count(what), counts[what]);
        }
    }

    private static void countIsTold() {
        sentence("22 count", "0 ENTRIES of THE LOG, 1 SYNCED ones, 2 the latest NUMBER, 3 FILES in force, 4 their bytes together");
        Store x = new Store();
        dueCounts(x, 0, 0, 0, 0, 0, NONE, 0, 0, 0);
        States.fullTable(x);
        dueCounts(x, 24, 10, 24, 0, 0, NONE, 0, 0, 0);
        x.crash(14);
        x.flushAll();
        dueCounts(x, 0, 0, 24, 1, x.file(0, 0, 5), NONE, 0, 1, 22);
        x.mergeAll(0, 0);
        due(x.count(3), 3);
        due(x.count(4), x.file(1, 0, 5) + x.file(1, 1, 5) + x.file(1, 2, 5));
        due(x.count(7), 4);
        due(x.count(8), 22);
    }

    private static void countOfAJob() {
        sentence("22 count", "5 ENTRIES that are left to the JOB (NONE: none is there), 6 FILES that it made,"
            + " 7 the next FILE's number, 8 ENTRIES in FILES in force");
        Store x = new Store();
        States.mergeUnderWay(x);
        int bytes = x.count(4);
        dueCounts(x, 3, 1, 25, 3, bytes, 10, 1, 5, 22);
        x.work(500);
        dueCounts(x, 3, 1, 25, 3, bytes, 0, 3, 7, 22);
        x.stop();
        dueCounts(x, 3, 1, 25, 3, bytes, NONE, 0, 4, 22);
        x.mergeAll(0, 0);
        due(x.count(3), 3);
        due(x.count(5), NONE);
        due(x.count(6), 0);
        due(x.count(7), 7);
        due(x.count(8), 21);
    }

    private static void countBad() {
        sentence("22 count", "BAD");
        for (int what : new int[] {-1, 9, MIN, MAX}) {
            refusedInEveryState(x -> x.count(what), BAD);
        }
    }

    // ---- promise 23

    private static void checkOfNone() {
        sentence("23 check", "How many FILES in force are not as they should be");
        Store x = new Store();
        due(x.check(), 0);
        for (Telling.Steps steps : States.ALL) {
            x = new Store();
            steps.on(x);
            due(x.check(), 0);
        }
        x = new Store();
        States.crowdedMerge(x);
        x.work(500);
        due(x.check(), 0);
    }

    private static void checkOfSpoiltFiles() {
        sentence("23 check", "read from THE FIELD");
        Store x = new Store();
        States.allLevels(x);
        boolean[] within = new boolean[120];
        for (int level = 0; level < 4; level++) {
            int place = x.file(level, 0, 4);
            Arrays.fill(within, place, place + x.file(level, 0, 5), true);
        }
        for (int at = 0; at < within.length; at++) {
            int was = x.byteAt(at);
            x.setByte(at, was ^ 1);
            due(x.check(), within[at] ? 1 : 0);
            x.setByte(at, was);
        }
        due(x.check(), 0);
        for (int level = 0; level < 4; level++) {
            x.setByte(x.file(level, 0, 4), 99);
            due(x.check(), level + 1);
        }
    }

    private static void checkOfAnotherFile() {
        sentence("23 check", "bytes that are no FILE of these ENTRIES");
        Store x = new Store();
        x.put(5, 1);
        x.flushAll();
        dueBytes(x, 0, 1, 5, 2, 2, 10);
        // These are bytes of a file with a right sum, but of key 6 with value -1.
        x.setByte(1, 6);
        x.setByte(3, 1);
        due(x.check(), 1);
        x.setByte(1, 5);
        x.setByte(3, 2);
        due(x.check(), 0);
        due(x.get(5), 1);
    }

    private static void checkOfFilesInForce() {
        sentence("23 check", "FILES in force");
        Store x = new Store();
        States.flushDone(x);
        x.setByte(0, 99);
        due(x.check(), 0);
        x.install();
        due(x.check(), 1);
        x.mergeAll(0, 0);
        due(x.check(), 0);
        x.setByte(1499, 1);
        due(x.check(), 0);
    }
}
