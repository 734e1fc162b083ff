// Promises 6 to 10: get, view, next, hold, release.
public final class ReadingTest extends Sentences {
    private static final int[] HELD = {0, 2};

    public static void main(String[] args) {
        getWhatIsRead();
        getBad();
        viewWhatIsRead();
        viewUnknown();
        viewOfNone();
        viewBad();
        nextFromOneOn();
        nextInAView();
        nextNone();
        nextUnknown();
        nextBad();
        holdTheLatest();
        holdAheadOfTheFirst();
        holdUnknown();
        holdState();
        releaseItsNumber();
        releaseUnknown();
        releaseOfNone();
        end();
    }

    // ---- promise 6

    private static void getWhatIsRead() {
        sentence("6 get", "What is read of a KEY");
        Store x = new Store();
        due(x.get(0), NONE);
        due(x.get(999), NONE);
        x.put(0, -100000);
        x.put(999, 100000);
        due(x.get(0), -100000);
        due(x.get(999), 100000);
        due(x.get(1), NONE);
        due(x.get(998), NONE);
        x.sinkWritten(3, 0);
        due(x.get(0), -100000);
        due(x.get(999), 100000);
        due(x.get(500), NONE);
    }

    private static void getBad() {
        sentence("6 get", "BAD");
        for (int key : NO_KEYS) {
            refusedInEveryState(x -> x.get(key), BAD);
        }
    }

    // ---- promise 7

    private static void viewWhatIsRead() {
        sentence("7 view", "What is read of a KEY in a VIEW");
        Store x = new Store();
        States.fullTable(x);
        due(x.view(0, 5), 2);
        due(x.view(0, 10), NONE);
        due(x.view(2, 5), NONE);
        due(x.view(2, 912), 100000);
        due(x.view(2, 0), NONE);
        due(x.view(2, 999), NONE);
        x.flushAll();
        due(x.view(0, 5), 2);
        due(x.view(2, 5), NONE);
        due(x.view(2, 912), 100000);
    }

    private static void viewUnknown() {
        sentence("7 view", "UNKNOWN (no VIEW 0 .. 2");
        for (int view : NO_VIEWS) {
            refusedInEveryState(x -> x.view(view, 5), UNKNOWN);
            refusedInEveryState(x -> x.view(view, 1000), UNKNOWN);
        }
    }

    private static void viewOfNone() {
        sentence("7 view", "or it is none");
        refused(States::fullTable, x -> x.view(1, 5), UNKNOWN);
        refused(States::fullTable, x -> x.view(1, -1), UNKNOWN);
        Store x = new Store();
        for (int v = 0; v < 3; v++) {
            due(x.view(v, 5), UNKNOWN);
            x.hold(v);
            due(x.view(v, 5), NONE);
            x.release(v);
            due(x.view(v, 5), UNKNOWN);
        }
    }

    private static void viewBad() {
        sentence("7 view", "BAD");
        for (int key : NO_KEYS) {
            for (int v : HELD) {
                refused(States::fullTable, x -> x.view(v, key), BAD);
            }
            refused(States::mergeUnderWay, x -> x.view(0, key), BAD);
        }
    }

    // ---- promise 8

    private static void nextFromOneOn() {
        sentence("8 next", "The least KEY from one on that has a VALUE (as get()");
        Store x = new Store();
        x.putAll(0, 0, 20, 999);
        x.drop(10);
        due(x.next(-1, 0), 0);
        due(x.next(-1, 1), 20);
        due(x.next(-1, 10), 20);
        due(x.next(-1, 20), 20);
        due(x.next(-1, 21), 999);
        due(x.next(-1, 999), 999);
        x.sinkWritten(3, 0);
        x.put(10, 5);
        x.drop(20);
        x.flushAll();
        x.put(15, 5);
        due(x.next(-1, 1), 10);
        due(x.next(-1, 11), 15);
        due(x.next(-1, 16), 999);
    }

    private static void nextInAView() {
        sentence("8 next", "as view() in a VIEW 0 .. 2");
        Store x = new Store();
        x.hold(0);
        x.put(10, 1);
        x.hold(1);
        x.drop(10);
        x.put(999, 1);
        x.hold(2);
        x.put(5, 1);
        x.flushAll();
        due(x.next(0, 0), NONE);
        due(x.next(1, 0), 10);
        due(x.next(1, 10), 10);
        due(x.next(1, 11), NONE);
        due(x.next(2, 0), 999);
        due(x.next(2, 999), 999);
        due(x.next(-1, 0), 5);
    }

    private static void nextNone() {
        sentence("8 next", "NONE");
        Store x = new Store();
        due(x.next(-1, 0), NONE);
        due(x.next(-1, 999), NONE);
        x.put(998, 0);
        due(x.next(-1, 999), NONE);
        due(x.next(-1, 998), 998);
        x.drop(998);
        due(x.next(-1, 0), NONE);
    }

    private static void nextUnknown() {
        sentence("8 next", "UNKNOWN: as view() (view -1: none)");
        for (int view : new int[] {-2, 3, MIN, MAX}) {
            refusedInEveryState(x -> x.next(view, 0), UNKNOWN);
            refusedInEveryState(x -> x.next(view, -1), UNKNOWN);
        }
        refused(States::fullTable, x -> x.next(1, 0), UNKNOWN);
        refused(States::fullTable, x -> x.next(1, 1000), UNKNOWN);
        Store x = new Store();
        States.fullTable(x);
        due(x.next(-1, 0), 10);
        due(x.next(0, 0), 5);
        due(x.next(2, 0), 10);
    }

    private static void nextBad() {
        sentence("8 next", "BAD: key");
        for (int key : NO_KEYS) {
            refusedInEveryState(x -> x.next(-1, key), BAD);
            for (int v : HELD) {
                refused(States::fullTable, x -> x.next(v, key), BAD);
            }
        }
    }

    // ---- promise 9

    private static void holdTheLatest() {
        sentence("9 hold", "A VIEW is the latest NUMBER");
        Store x = new Store();
        x.put(1, 1);
        due(x.hold(0), 1);
        x.drop(1);
        due(x.hold(2), 2);
        due(x.hold(1), 2);
        due(x.release(0), 1);
        x.flushAll();
        due(x.hold(0), 2);
        due(x.view(0, 1), NONE);
        // A job does not hinder it.
        x = new Store();
        States.mergeUnderWay(x);
        due(x.hold(1), 25);
        due(x.release(0), 12);
        due(x.hold(0), 25);
        due(x.view(0, 3), 3);
    }

    private static void holdAheadOfTheFirst() {
        sentence("9 hold", "0: ahead of the first");
        Store x = new Store();
        due(x.hold(1), 0);
        x.put(5, 1);
        due(x.view(1, 5), NONE);
        due(x.next(1, 0), NONE);
        due(x.hold(1), STATE);
        due(x.release(1), 0);
        due(x.hold(1), 1);
        due(x.view(1, 5), 1);
    }

    private static void holdUnknown() {
        sentence("9 hold", "UNKNOWN: no VIEW 0 .. 2");
        for (int view : NO_VIEWS) {
            refusedInEveryState(x -> x.hold(view), UNKNOWN);
        }
    }

    private static void holdState() {
        sentence("9 hold", "STATE: it is not none");
        for (int v : HELD) {
            refused(States::fullTable, x -> x.hold(v), STATE);
        }
        refused(States::flushBegun, x -> x.hold(1), STATE);
        // A view of number 0 is held, too.
        refused(x -> x.hold(2), x -> x.hold(2), STATE);
    }

    // ---- promise 10

    private static void releaseItsNumber() {
        sentence("10 release", "A VIEW is none: its NUMBER");
        Store x = new Store();
        States.fullTable(x);
        due(x.release(2), 23);
        due(x.view(2, 5), UNKNOWN);
        due(x.release(0), 2);
        due(x.view(0, 5), UNKNOWN);
        due(x.hold(0), 24);
        due(x.release(0), 24);
        // What no view needs any more is left out.
        x.flushAll();
        due(x.file(0, 0, 1), 22);
    }

    private static void releaseUnknown() {
        sentence("10 release", "UNKNOWN");
        for (int view : NO_VIEWS) {
            refusedInEveryState(x -> x.release(view), UNKNOWN);
        }
    }

    private static void releaseOfNone() {
        sentence("10 release", "UNKNOWN");
        refused(States::fullTable, x -> x.release(1), UNKNOWN);
        refused(States::allLevels, x -> x.release(0), UNKNOWN);
        Store x = new Store();
        for (int v = 0; v < 3; v++) {
            due(x.release(v), UNKNOWN);
            due(x.hold(v), 0);
            due(x.release(v), 0);
            due(x.release(v), UNKNOWN);
        }
    }
}
