// The terms, part 3: jobs, their sources, what they leave out, the files they make, and a crash.
public final class JobsTest extends Sentences {
    public static void main(String[] args) {
        oneJobAtATime();
        tableAsItIs();
        mergeOfAllOfLevel0();
        leastToGreatestOfAll();
        mergeOfOneFile();
        reachingIn();
        oneEntryAtATime();
        leftOutOfAFlush();
        leftOutOfAMerge();
        viewsAsTheJobBegan();
        firstOneOfItsKey();
        nothingOfAnEarlierJob();
        graveAlone();
        graveOverWhatIsLeftOut();
        graveOverAValueThatStays();
        graveBehindAValue();
        gravesAboveLevel3();
        flushMakesOneFile();
        mergeEndsAFileAt8();
        mergeKeepsAKeyTogether();
        leftOutEntriesEndNoFile();
        fileWithoutEntries();
        failedFlush();
        failedMerge();
        installedFlush();
        installedMerge();
        crashCutsTheLog();
        crashedTable();
        crashEndsAJob();
        crashEndsViews();
        numberBehindTheLog();
        numberBehindTheFiles();
        numberOne();
        end();
    }

    // ---- sources

    private static void oneJobAtATime() {
        sentence("3", "A JOB, one at a time");
        Telling.Steps[] withJob = {States::flushBegun, States::flushDone, States::mergeUnderWay, States::mergeDone};
        for (Telling.Steps steps : withJob) {
            refused(steps, Store::flush, STATE);
            refused(steps, x -> x.merge(0, 0), STATE);
        }
        Store x = new Store();
        States.flushDone(x);
        x.install();
        due(x.merge(0, 0), 8);
        x.stop();
        due(x.flush(), 2);
    }

    private static void tableAsItIs() {
        sentence("3", "of THE TABLE, as it is (FLUSH)");
        Store x = new Store();
        x.putAll(1, 3, 1);
        due(x.flush(), 2);
        x.putAll(2, 0, 1, 9);
        due(x.work(500), 0);
        x.install();
        dueEntries(x, 0, 0, 1, 2, 3, 1);
        due(x.count(0), 3);
        due(x.get(1), 2);
    }

    private static void mergeOfAllOfLevel0() {
        sentence("3", "MERGE of LEVEL 0: SOURCES are all its FILES");
        Store x = new Store();
        for (int f = 0; f < 5; f++) {
            x.putAll(1, 100 * f, 100 * f + 50);
            x.flushAll();
        }
        due(x.merge(0, 3), 10);
        x.finishJob();
        due(x.files(0), 0);
        due(x.count(8), 10);
    }

    private static void leastToGreatestOfAll() {
        sentence("3", "and those of LEVEL 1 whose KEYS reach into theirs (the least to the greatest one of all of them)");
        int[][] files = {{40, 50}, {80, 85}};
        for (int first = 0; first < 2; first++) {
            Store x = new Store();
            x.sink(1, 20, 30);
            x.sink(1, 60, 70);
            x.sink(1, 90, 95);
            x.putAll(1, files[first]);
            x.flushAll();
            x.putAll(1, files[1 - first]);
            x.flushAll();
            // No file of level 0 has keys about 60 to 70, but they lie between those of both.
            due(x.merge(0, 0), 6);
            x.finishJob();
            due(x.files(1), 3);
            int[] keys = {40, 50, 60, 70, 80, 85};
            for (int k = 0; k < keys.length; k++) {
                due(x.entry(1, 1, k, 0), keys[k]);
            }
        }
    }

    private static void mergeOfOneFile() {
        sentence("3", "of LEVEL 1, 2: FILE i of the LEVEL (as they stand), and those of the next LEVEL whose KEYS reach into its");
        for (int level = 1; level <= 2; level++) {
            Store x = new Store();
            x.sink(level + 1, 310);
            x.sink(level, 500);
            x.sink(level, 300, 301, 320);
            x.sink(level, 100, 200);
            due(x.merge(level, 0), 2);
            x.stop();
            due(x.merge(level, 2), 1);
            x.stop();
            due(x.merge(level, 1), 4);
            x.finishJob();
            due(x.files(level), 2);
            due(x.file(level, 0, 2), 100);
            due(x.file(level, 1, 2), 500);
            due(x.files(level + 1), 1);
            dueEntries(x, level + 1, 0, 300, 3, 301, 4, 310, 1, 320, 5);
        }
    }

    /** Files of keys 5 to 10, 15 to 20, 30 to 35 and 40 to 45 in the next level: a merge of a file, and how many it has. */
    private static void dueReach(int level, int least, int greatest, int entries) {
        Store x = new Store();
        x.sink(level + 1, 5, 10);
        x.sink(level + 1, 15, 20);
        x.sink(level + 1, 30, 35);
        x.sink(level + 1, 40, 45);
        if (least == greatest) {
            x.sink(level, least);
        } else {
            x.sink(level, least, greatest);
        }
        due(x.merge(level, 0), entries);
    }

    private static void reachingIn() {
        sentence("3", "KEYS reach into others, if from the least to the greatest one there is one that is from the least"
            + " to the greatest one of those");
        for (int level = 0; level <= 2; level++) {
            dueReach(level, 0, 4, 2);
            dueReach(level, 0, 5, 4);
            dueReach(level, 10, 14, 4);
            dueReach(level, 11, 14, 2);
            dueReach(level, 11, 15, 4);
            dueReach(level, 20, 30, 6);
            dueReach(level, 21, 29, 2);
            dueReach(level, 21, 30, 4);
            dueReach(level, 20, 29, 4);
            dueReach(level, 17, 18, 4);
            dueReach(level, 17, 17, 3);
            dueReach(level, 21, 21, 1);
            dueReach(level, 14, 31, 6);
            dueReach(level, 45, 999, 4);
            dueReach(level, 46, 999, 2);
            dueReach(level, 0, 999, 10);
        }
    }

    private static void oneEntryAtATime() {
        sentence("3", "A JOB does one ENTRY of its SOURCES at a time, by KEYS, of one KEY the greatest NUMBER first");
        Store x = new Store();
        x.sink(1, 2, 4);
        x.put(4, 1);
        x.hold(0);
        x.flushAll();
        x.putAll(1, 4, 3);
        x.flushAll();
        due(x.merge(0, 0), 5);
        for (int left = 4; left >= 0; left--) {
            due(x.count(5), left + 1);
            due(x.work(1), left);
        }
        x.install();
        dueEntries(x, 1, 0, 2, 1, 3, 5, 4, 4, 4, 3);
    }

    // ---- what is left out

    /** Writes 1 to 9, of key 7 those with the numbers 2, 5 and 8; view 0 is held at one of them. */
    private static void writesOfKey7(Store x, int viewAt, boolean apart) {
        for (int number = 0; number <= 9; number++) {
            if (number > 0) {
                x.put(number % 3 == 2 ? 7 : 100 + number, number);
            }
            if (number == viewAt) {
                x.hold(0);
            }
            if (apart && number > 0) {
                x.flushAll();
            }
        }
    }

    /** Whose numbers stay besides 8: 5 is read in views 5 to 7, 2 in views 2 to 4. */
    private static void dueOfKey7(Store x, int level, int viewAt) {
        int more = viewAt >= 5 && viewAt <= 7 ? 5 : viewAt >= 2 && viewAt <= 4 ? 2 : NONE;
        due(x.entry(level, 0, 0, 0), 7);
        due(x.entry(level, 0, 0, 1), 8);
        due(x.entry(level, 0, 1, 0), more == NONE ? 101 : 7);
        due(x.entry(level, 0, 1, 1), more == NONE ? 1 : more);
        due(x.count(8), more == NONE ? 7 : 8);
    }

    private static void leftOutOfAFlush() {
        sentence("3", "no VIEW there is (as the JOB began) is from its NUMBER on, and below that of the ENTRY of the KEY"
            + " done ahead of it");
        for (int viewAt = -1; viewAt <= 9; viewAt++) {
            Store x = new Store();
            writesOfKey7(x, viewAt, false);
            due(x.flush(), 9);
            x.finishJob();
            dueOfKey7(x, 0, viewAt);
            due(x.count(0), 0);
        }
    }

    private static void leftOutOfAMerge() {
        sentence("3", "no VIEW there is (as the JOB began) is from its NUMBER on, and below that of the ENTRY of the KEY"
            + " done ahead of it");
        for (int viewAt = -1; viewAt <= 9; viewAt++) {
            Store x = new Store();
            writesOfKey7(x, viewAt, true);
            due(x.count(8), 9);
            due(x.merge(0, 0), 9);
            x.finishJob();
            dueOfKey7(x, 1, viewAt);
        }
    }

    private static void viewsAsTheJobBegan() {
        sentence("3", "as the JOB began");
        Store x = new Store();
        writesOfKey7(x, 4, false);
        x.flush();
        x.release(0);
        x.hold(0);
        x.finishJob();
        dueOfKey7(x, 0, 4);
        x.merge(0, 0);
        x.finishJob();
        dueOfKey7(x, 1, 9);
    }

    private static void firstOneOfItsKey() {
        sentence("3", "it is not the first one of its KEY");
        Store x = new Store();
        x.putAll(1, 3, 3, 3);
        x.drop(4);
        x.drop(4);
        x.flushAll();
        dueEntries(x, 0, 0, 3, 3, 4, 5);
        x.hold(0);
        x.hold(1);
        x.hold(2);
        x.mergeAll(0, 0);
        dueEntries(x, 1, 0, 3, 3, 4, 5);
    }

    private static void nothingOfAnEarlierJob() {
        sentence("3", "it is not the first one of its KEY");
        Store x = new Store();
        x.dropRange(1, 3);
        x.sinkWritten(2, 1);
        x.mergeAll(2, 0);
        due(x.count(3), 0);
        // Three graves were left out; those of the next jobs are not.
        x.dropRange(1, 3);
        x.flushAll();
        dueEntries(x, 0, 0, 1, 4, 2, 5, 3, 6);
        x.mergeAll(0, 0);
        dueEntries(x, 1, 0, 1, 4, 2, 5, 3, 6);
    }

    private static void graveAlone() {
        sentence("3", "Of a MERGE into LEVEL 3 a GRAVE that is not LEFT OUT by that is so");
        Store x = new Store();
        x.drop(7);
        x.put(8, 1);
        x.sinkWritten(2, 7);
        dueEntries(x, 2, 0, 7, 1, 8, 2);
        x.mergeAll(2, 0);
        dueEntries(x, 3, 0, 8, 2);
        // A view does not keep it: there is nothing to be read in it.
        x = new Store();
        x.drop(7);
        x.hold(0);
        x.drop(7);
        x.sinkWritten(2, 7);
        dueEntries(x, 2, 0, 7, 2, 7, 1);
        x.mergeAll(2, 0);
        due(x.files(3), 0);
        due(x.view(0, 7), NONE);
        due(x.get(7), NONE);
    }

    private static void graveOverWhatIsLeftOut() {
        sentence("3", "if all ENTRIES of the KEY behind it are LEFT OUT or GRAVES");
        Store x = new Store();
        x.sink(3, 1, 7, 9);
        x.drop(7);
        x.hold(0);
        x.drop(7);
        x.sinkWritten(2, 7);
        due(x.merge(2, 0), 5);
        x.finishJob();
        dueEntries(x, 3, 0, 1, 1, 9, 3);
        due(x.get(7), NONE);
        due(x.view(0, 7), NONE);
    }

    private static void graveOverAValueThatStays() {
        sentence("3", "if all ENTRIES of the KEY behind it are LEFT OUT or GRAVES");
        Store x = new Store();
        x.put(7, 70);
        x.hold(0);
        x.drop(7);
        x.hold(1);
        x.drop(7);
        x.sinkWritten(2, 7);
        x.mergeAll(2, 0);
        dueEntries(x, 3, 0, 7, 3, 7, 2, 7, 1);
        due(x.view(0, 7), 70);
        due(x.view(1, 7), NONE);
        due(x.get(7), NONE);
        // The value of another key behind a grave does not keep it.
        x = new Store();
        x.drop(7);
        x.put(8, 1);
        x.hold(0);
        x.put(8, 2);
        x.sinkWritten(2, 7);
        dueEntries(x, 2, 0, 7, 1, 8, 3, 8, 2);
        x.mergeAll(2, 0);
        dueEntries(x, 3, 0, 8, 3, 8, 2);
    }

    private static void graveBehindAValue() {
        sentence("3", "if all ENTRIES of the KEY behind it are LEFT OUT or GRAVES");
        Store x = new Store();
        x.sink(3, 7);
        x.drop(7);
        x.hold(0);
        x.put(7, 71);
        x.sinkWritten(2, 7);
        dueEntries(x, 2, 0, 7, 3, 7, 2);
        due(x.merge(2, 0), 3);
        x.finishJob();
        dueEntries(x, 3, 0, 7, 3);
        due(x.view(0, 7), NONE);
        due(x.get(7), 71);
    }

    private static void gravesAboveLevel3() {
        sentence("3", "Of a MERGE into LEVEL 3");
        Store x = new Store();
        x.drop(7);
        for (int level = 0; level < 3; level++) {
            if (level == 0) {
                x.flushAll();
            } else {
                x.mergeAll(level - 1, 0);
            }
            dueEntries(x, level, 0, 7, 1);
        }
        x.mergeAll(2, 0);
        due(x.count(3), 0);
    }

    // ---- files that are made

    private static void flushMakesOneFile() {
        sentence("3", "a FLUSH makes one FILE");
        Store x = new Store();
        x.putRange(0, 23, 1);
        x.flush();
        due(x.work(23), 1);
        due(x.count(6), 0);
        due(x.work(1), 0);
        due(x.count(6), 1);
        due(x.install(), 1);
        due(x.file(0, 0, 1), 24);
    }

    private static void mergeEndsAFileAt8() {
        sentence("3", "a MERGE ends a FILE ahead of an ENTRY of another KEY than the last one, if it has 8 or more");
        int[] entries = {7, 8, 9, 16, 17, 24};
        int[] files = {1, 1, 2, 2, 3, 3};
        for (int k = 0; k < entries.length; k++) {
            Store x = new Store();
            x.putRange(1, entries[k], 1);
            x.flushAll();
            x.merge(0, 0);
            due(x.work(500), 0);
            due(x.install(), files[k]);
            due(x.file(1, 0, 1), Math.min(8, entries[k]));
            due(x.file(1, files[k] - 1, 3), entries[k]);
        }
        Store x = new Store();
        x.putRange(1, 9, 1);
        x.flushAll();
        x.merge(0, 0);
        x.work(8);
        due(x.count(6), 0);
        x.work(1);
        due(x.count(6), 2);
    }

    private static void mergeKeepsAKeyTogether() {
        sentence("3", "of another KEY than the last one");
        Store x = new Store();
        x.putRange(0, 6, 1);
        for (int v = 0; v < 3; v++) {
            x.put(7, v);
            x.hold(v);
        }
        x.putAll(3, 7, 8);
        x.flushAll();
        x.merge(0, 0);
        due(x.work(11), 1);
        due(x.count(6), 0);
        due(x.work(1), 0);
        due(x.install(), 2);
        due(x.file(1, 0, 1), 11);
        due(x.file(1, 0, 3), 7);
        dueEntries(x, 1, 1, 8, 12);
        for (int v = 0; v < 3; v++) {
            due(x.view(v, 7), v);
        }
    }

    private static void leftOutEntriesEndNoFile() {
        sentence("3", "Else it comes to the FILE being made");
        Store x = new Store();
        x.putRange(0, 7, 1);
        x.sinkWritten(3, 0);
        x.put(0, 2);
        x.drop(8);
        x.put(9, 2);
        x.sinkWritten(2, 0);
        due(x.merge(2, 0), 11);
        due(x.work(10), 1);
        due(x.count(6), 0);
        due(x.work(1), 0);
        due(x.count(6), 2);
        due(x.stop(), 2);
        // Without the last one the file of 8 is the only one.
        x = new Store();
        x.putRange(0, 7, 1);
        x.drop(8);
        x.drop(9);
        x.flushAll();
        x.mergeAll(0, 0);
        x.mergeAll(1, 0);
        x.mergeAll(1, 0);
        due(x.files(2), 2);
        x.mergeAll(2, 0);
        x.mergeAll(2, 0);
        due(x.files(3), 1);
        due(x.file(3, 0, 1), 8);
    }

    private static void fileWithoutEntries() {
        sentence("3", "A FILE without ENTRIES is not made");
        Store x = new Store();
        x.dropRange(1, 12);
        x.flushAll();
        x.mergeAll(0, 0);
        due(x.files(1), 2);
        x.mergeAll(1, 0);
        x.mergeAll(1, 0);
        int number = x.count(7);
        due(x.merge(2, 0), 8);
        due(x.work(500), 0);
        due(x.count(6), 0);
        due(x.count(7), number);
        due(x.install(), 0);
        due(x.files(2), 1);
        due(x.files(3), 0);
        due(x.count(8), 4);
    }

    // ---- failed and installed

    private static void failedFlush() {
        sentence("3", "A FILE that ends and finds no room: the JOB is FAILED: it and its FILES are gone");
        Store x = new Store();
        States.nearlyFullField(x);
        x.putRange(0, 16, 100000);
        x.flush();
        due(x.work(16), 1);
        due(x.count(5), 1);
        due(x.work(1), FULL);
        due(x.count(5), NONE);
        due(x.count(6), 0);
        due(x.count(0), 17);
        due(x.files(0), 10);
        due(x.get(16), 100000);
        due(x.work(1), STATE);
        due(x.install(), STATE);
        due(x.stop(), STATE);
        due(x.flush(), 17);
    }

    private static void failedMerge() {
        sentence("3", "A FILE that ends and finds no room: the JOB is FAILED: it and its FILES are gone");
        Store x = new Store();
        States.crowdedMerge(x);
        due(x.count(6), 3);
        int done = 27;
        int left = x.work(1);
        for (; left != FULL && done < 216; done++) {
            due(left, 215 - done);
            left = x.work(1);
        }
        // 249 bytes are free; a file of 8 has some 48 or 49, so the sixth ends ahead of entry 49, too long.
        due(done, 48);
        due(x.count(5), NONE);
        due(x.count(6), 0);
        due(x.count(3), 9);
        due(x.count(4), 1251);
        due(x.files(1), 0);
        due(x.byteAt(1251), 8);
        due(x.check(), 0);
        x.put(1, 1);
        x.flushAll();
        due(x.file(0, 9, 4), 1251);
    }

    private static void installedFlush() {
        sentence("3", "of a FLUSH THE LOG and THE TABLE lose its ENTRIES");
        Store x = new Store();
        x.putAll(1, 5, 5, 6);
        x.sync();
        x.flush();
        x.putAll(2, 6, 7);
        x.work(500);
        due(x.files(0), 0);
        due(x.count(0), 5);
        x.install();
        due(x.files(0), 1);
        due(x.count(0), 2);
        due(x.count(1), 0);
        due(x.log(0, 1), 4);
        due(x.log(1, 1), 5);
        due(x.flush(), 2);
        x.finishJob();
        // Entry 1 was left out of the file, and is in the log no more.
        due(x.count(8), 4);
        due(x.count(0), 0);
        due(x.flush(), STATE);
    }

    private static void installedMerge() {
        sentence("3", "its FILES come into force (of a FLUSH in LEVEL 0; of a MERGE in the next LEVEL), its SOURCES out of it");
        Store x = new Store();
        x.putAll(1, 5, 9);
        for (int level = 0; level < 4; level++) {
            due(x.count(3), level == 0 ? 0 : 1);
            due(level == 0 ? x.flush() : x.merge(level - 1, 0), 2);
            due(x.work(500), 0);
            due(x.files(level), 0);
            due(x.install(), 1);
            due(x.count(3), 1);
            dueEntries(x, level, 0, 5, 1, 9, 2);
        }
    }

    // ---- crash

    private static void crashCutsTheLog() {
        sentence("3", "A CRASH: THE LOG keeps its SYNCED ENTRIES and so many behind them as told");
        for (int keep = 0; keep <= 14; keep++) {
            Store x = new Store();
            States.fullTable(x);
            due(x.crash(keep), 10 + keep);
            due(x.count(0), 10 + keep);
            due(x.log(9 + keep, 1), 10 + keep);
            due(x.log(10 + keep, 1), BAD);
            due(x.count(1), 10);
        }
    }

    private static void crashedTable() {
        sentence("3", "THE TABLE is as THE LOG then");
        Store x = new Store();
        States.fullTable(x);
        due(x.put(0, 0), FULL);
        x.crash(1);
        due(x.get(16), -3);
        due(x.get(900), 100000);
        due(x.get(901), NONE);
        due(x.next(-1, 901), NONE);
        x.putRange(100, 111, 1);
        due(x.put(112, 1), 24);
        due(x.put(113, 1), FULL);
        due(x.flush(), 24);
    }

    private static void crashEndsAJob() {
        sentence("3", "a JOB and its FILES are gone");
        Telling.Steps[] withJob = {States::flushBegun, States::flushDone, States::mergeUnderWay, States::mergeDone};
        for (Telling.Steps steps : withJob) {
            Store x = new Store();
            steps.on(x);
            int files = x.count(3);
            x.crash(0);
            due(x.count(5), NONE);
            due(x.count(6), 0);
            due(x.count(3), files);
            due(x.stop(), STATE);
            due(x.install(), STATE);
            due(x.work(1), STATE);
            due(x.flush() > 0 ? 1 : 0, 1);
        }
    }

    private static void crashEndsViews() {
        sentence("3", "VIEWS are none");
        Store x = new Store();
        x.hold(0);
        x.put(1, 1);
        x.hold(1);
        x.hold(2);
        x.sync();
        x.crash(0);
        for (int v = 0; v < 3; v++) {
            due(x.view(v, 1), UNKNOWN);
            due(x.next(v, 1), UNKNOWN);
            due(x.release(v), UNKNOWN);
            due(x.hold(v), 1);
        }
    }

    private static void numberBehindTheLog() {
        sentence("3", "the next WRITE has the NUMBER behind the greatest that is left (in THE LOG");
        Store x = new Store();
        x.put(1, 1);
        x.flushAll();
        x.put(2, 2);
        x.sync();
        x.putRange(3, 9, 1);
        due(x.crash(2), 3);
        due(x.count(2), 4);
        due(x.hold(0), 4);
        due(x.put(9, 9), 5);
        due(x.crash(0), 1);
        due(x.put(9, 9), 3);
    }

    private static void numberBehindTheFiles() {
        sentence("3", "in FILES in force");
        for (int level = 0; level < 4; level++) {
            Store x = new Store();
            x.sink(level, 900, 901, 902);
            x.putRange(1, 5, 1);
            due(x.count(2), 8);
            due(x.crash(0), 0);
            due(x.count(2), 3);
            due(x.put(1, 1), 4);
        }
        // The grave with the greatest number has been left out: the one ahead of it is left.
        Store x = new Store();
        x.put(1, 1);
        x.drop(2);
        x.sinkWritten(2, 1);
        x.mergeAll(2, 0);
        due(x.count(2), 2);
        due(x.crash(0), 0);
        due(x.count(2), 1);
        due(x.put(3, 3), 2);
    }

    private static void numberOne() {
        sentence("3", "or 1");
        Store x = new Store();
        due(x.crash(0), 0);
        due(x.put(1, 1), 1);
        due(x.crash(0), 0);
        due(x.count(2), 0);
        due(x.hold(0), 0);
        due(x.put(2, 2), 1);
    }
}
