// Promises 11 to 15: flush, merge, work, install, stop.
public final class JobCallsTest extends Sentences {
    private static final Telling.Steps[] WITHOUT_JOB = {x -> { }, States::fullTable, States::allLevels};
    private static final Telling.Steps[] WITH_JOB = {States::flushBegun, States::flushDone, States::mergeUnderWay,
        States::mergeDone, States::crowdedMerge};

    public static void main(String[] args) {
        flushBegins();
        flushBesideAJob();
        flushOfAnEmptyTable();
        mergeBegins();
        mergeUnknownLevel();
        mergeUnknownFile();
        mergeBesideAJob();
        mergeOfAnEmptyLevel0();
        workDoesSome();
        workDoesAllThatAreLeft();
        workEndsTheLastFile();
        workBad();
        workWithoutAJob();
        workOfADoneJob();
        workFails();
        installAnswers();
        installOfNoFiles();
        installWithoutAJob();
        installOfAJobNotDone();
        stopAnswers();
        stopGivesUp();
        stopWithoutAJob();
        end();
    }

    // ---- promise 11

    private static void flushBegins() {
        sentence("11 flush", "A FLUSH begins: how many ENTRIES it has");
        Store x = new Store();
        x.put(5, 1);
        due(x.flush(), 1);
        due(x.count(5), 1);
        x.finishJob();
        x.putAll(1, 7, 7, 7);
        // Two of them will be left out, but the job has them all.
        due(x.flush(), 3);
        x.finishJob();
        due(x.file(0, 1, 1), 1);
        x.dropRange(0, 23);
        due(x.flush(), 24);
    }

    private static void flushBesideAJob() {
        sentence("11 flush", "STATE: there is a JOB");
        for (Telling.Steps steps : WITH_JOB) {
            refused(steps, Store::flush, STATE);
        }
    }

    private static void flushOfAnEmptyTable() {
        sentence("11 flush", "or THE TABLE is empty");
        refused(x -> { }, Store::flush, STATE);
        refused(States::allLevels, Store::flush, STATE);
        refused(JobCallsTest::cutToNothing, Store::flush, STATE);
    }

    private static void cutToNothing(Store x) {
        x.put(1, 1);
        x.crash(0);
    }

    // ---- promise 12

    private static void mergeBegins() {
        sentence("12 merge", "A MERGE of a LEVEL begins: how many ENTRIES its SOURCES have");
        Store x = new Store();
        States.allLevels(x);
        due(x.merge(0, 0), 4);
        due(x.count(5), 4);
        x.stop();
        due(x.merge(1, 0), 4);
        x.stop();
        due(x.merge(2, 0), 4);
        x.stop();
        // Which file is told is free in level 0.
        for (int i : new int[] {-1, 1, MIN, MAX}) {
            due(x.merge(0, i), 4);
            x.stop();
        }
    }

    private static void mergeUnknownLevel() {
        sentence("12 merge", "UNKNOWN: level (0 .. 2)");
        for (int level : new int[] {-1, 3, 4, MIN, MAX}) {
            refusedInEveryState(x -> x.merge(level, 0), UNKNOWN);
        }
    }

    private static void mergeUnknownFile() {
        sentence("12 merge", "i (of LEVELS 1, 2)");
        for (int level = 1; level <= 2; level++) {
            int l = level;
            for (int i : new int[] {-1, 1, MIN, MAX}) {
                refused(States::allLevels, x -> x.merge(l, i), UNKNOWN);
                refused(States::mergeUnderWay, x -> x.merge(l, i), UNKNOWN);
            }
            refused(x -> { }, x -> x.merge(l, 0), UNKNOWN);
        }
    }

    private static void mergeBesideAJob() {
        sentence("12 merge", "STATE: there is a JOB");
        for (Telling.Steps steps : WITH_JOB) {
            refused(steps, x -> x.merge(0, 0), STATE);
        }
        refused(States::mergeUnderWay, x -> x.merge(1, 0), STATE);
        refused(States::mergeDone, x -> x.merge(1, 0), STATE);
        refused(JobCallsTest::flushBesideAllLevels, x -> x.merge(2, 0), STATE);
    }

    private static void flushBesideAllLevels(Store x) {
        States.allLevels(x);
        x.put(1, 1);
        x.flush();
    }

    private static void mergeOfAnEmptyLevel0() {
        sentence("12 merge", "or LEVEL 0 has no FILES");
        refused(x -> { }, x -> x.merge(0, 0), STATE);
        refused(States::fullTable, x -> x.merge(0, 0), STATE);
        refused(x -> x.sink(1, 5), x -> x.merge(0, 0), STATE);
        Store x = new Store();
        x.sink(1, 5);
        due(x.merge(1, 0), 1);
    }

    // ---- promise 13

    private static void workDoesSome() {
        sentence("13 work", "The JOB does n ENTRIES");
        Store x = new Store();
        States.flushBegun(x);
        due(x.work(1), 7);
        due(x.work(3), 4);
        due(x.count(5), 4);
        due(x.work(3), 1);
        due(x.work(1), 0);
    }

    private static void workDoesAllThatAreLeft() {
        sentence("13 work", "or all that are left");
        for (int n : new int[] {8, 9, 499, 500}) {
            Store x = new Store();
            States.flushBegun(x);
            due(x.work(n), 0);
            due(x.count(5), 0);
        }
        Store x = new Store();
        States.flushBegun(x);
        due(x.work(7), 1);
        due(x.work(2), 0);
    }

    private static void workEndsTheLastFile() {
        sentence("13 work", "the last FILE ends, too, then");
        Store x = new Store();
        States.flushBegun(x);
        x.work(7);
        due(x.count(6), 0);
        x.work(1);
        due(x.count(6), 1);
        x = new Store();
        States.mergeUnderWay(x);
        due(x.count(5), 10);
        due(x.count(6), 1);
        due(x.work(9), 1);
        due(x.count(6), 2);
        due(x.work(1), 0);
        due(x.count(6), 3);
        due(x.install(), 3);
        due(x.file(1, 2, 3), 30);
    }

    private static void workBad() {
        sentence("13 work", "BAD: n is not 1 .. 500");
        for (int n : new int[] {0, -1, 501, MIN, MAX}) {
            refusedInEveryState(x -> x.work(n), BAD);
        }
    }

    private static void workWithoutAJob() {
        sentence("13 work", "STATE: there is none");
        for (Telling.Steps steps : WITHOUT_JOB) {
            refused(steps, x -> x.work(1), STATE);
            refused(steps, x -> x.work(500), STATE);
        }
        Store x = new Store();
        States.flushDone(x);
        x.install();
        due(x.work(1), STATE);
    }

    private static void workOfADoneJob() {
        sentence("13 work", "or it is done");
        refused(States::flushDone, x -> x.work(1), STATE);
        refused(States::mergeDone, x -> x.work(500), STATE);
        refused(JobCallsTest::doneWithoutFiles, x -> x.work(1), STATE);
    }

    private static void doneWithoutFiles(Store x) {
        x.drop(5);
        x.sinkWritten(2, 5);
        x.merge(2, 0);
        x.work(1);
    }

    private static void workFails() {
        sentence("13 work", "FULL: it is FAILED (there is no JOB any more)");
        Store x = new Store();
        States.crowdedMerge(x);
        due(x.work(21), 168);
        due(x.work(1), FULL);
        due(x.count(5), NONE);
        due(x.count(6), 0);
        due(x.work(1), STATE);
        due(x.work(0), BAD);
        due(x.merge(0, 0), 216);
        due(x.work(500), FULL);
        due(x.stop(), STATE);
        due(x.check(), 0);
        due(x.files(0), 9);
        due(x.get(41), 100000);
    }

    // ---- promise 14

    private static void installAnswers() {
        sentence("14 install", "The JOB is INSTALLED: how many FILES it made");
        Store x = new Store();
        States.flushDone(x);
        due(x.install(), 1);
        due(x.files(0), 1);
        due(x.count(5), NONE);
        due(x.count(6), 0);
        x = new Store();
        States.mergeDone(x);
        due(x.files(0), 2);
        due(x.install(), 3);
        due(x.files(0), 0);
        due(x.files(1), 3);
        due(x.count(0), 3);
    }

    private static void installOfNoFiles() {
        sentence("14 install", "how many FILES it made");
        Store x = new Store();
        doneWithoutFiles(x);
        due(x.files(2), 1);
        due(x.install(), 0);
        due(x.count(3), 0);
        due(x.count(4), 0);
        due(x.install(), STATE);
    }

    private static void installWithoutAJob() {
        sentence("14 install", "STATE: there is none");
        for (Telling.Steps steps : WITHOUT_JOB) {
            refused(steps, Store::install, STATE);
        }
        refused(JobCallsTest::failed, Store::install, STATE);
        Store x = new Store();
        States.flushDone(x);
        due(x.install(), 1);
        due(x.install(), STATE);
    }

    private static void failed(Store x) {
        States.crowdedMerge(x);
        x.work(500);
    }

    private static void installOfAJobNotDone() {
        sentence("14 install", "or it is not done");
        refused(States::flushBegun, Store::install, STATE);
        refused(States::mergeUnderWay, Store::install, STATE);
        refused(States::crowdedMerge, Store::install, STATE);
        refused(JobCallsTest::oneIsLeft, Store::install, STATE);
    }

    private static void oneIsLeft(Store x) {
        States.flushBegun(x);
        x.work(7);
    }

    // ---- promise 15

    private static void stopAnswers() {
        sentence("15 stop", "how many it had made");
        int[] made = {0, 1, 1, 3, 3};
        for (int k = 0; k < WITH_JOB.length; k++) {
            Store x = new Store();
            WITH_JOB[k].on(x);
            due(x.count(6), made[k]);
            due(x.stop(), made[k]);
        }
        Store x = new Store();
        doneWithoutFiles(x);
        due(x.stop(), 0);
        due(x.files(2), 1);
    }

    private static void stopGivesUp() {
        sentence("15 stop", "The JOB is given up, and its FILES are gone");
        Store x = new Store();
        States.mergeUnderWay(x);
        x.stop();
        due(x.count(5), NONE);
        due(x.count(6), 0);
        due(x.count(7), 4);
        due(x.files(0), 2);
        due(x.files(1), 1);
        due(x.view(0, 15), 1);
        due(x.get(15), 2);
        due(x.count(0), 3);
        // Nothing of the stopped job is left in the next one, and its room is free.
        int bytes = x.count(4);
        due(x.flush(), 3);
        due(x.work(500), 0);
        due(x.install(), 1);
        dueEntries(x, 0, 2, 1, 23, 2, 24, 3, 25);
        due(x.file(0, 2, 0), 4);
        due(x.count(4), bytes + x.file(0, 2, 5));
        due(x.merge(0, 0), 25);
        x.finishJob();
        due(x.count(8), 24);
    }

    private static void stopWithoutAJob() {
        sentence("15 stop", "STATE: there is none");
        for (Telling.Steps steps : WITHOUT_JOB) {
            refused(steps, Store::stop, STATE);
        }
        refused(JobCallsTest::failed, Store::stop, STATE);
        Store x = new Store();
        States.flushBegun(x);
        due(x.stop(), 0);
        due(x.stop(), STATE);
        x.flushAll();
        due(x.stop(), STATE);
    }
}
