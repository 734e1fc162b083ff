import java.util.ArrayList;
import java.util.IdentityHashMap;
import java.util.List;
import java.util.Map;

/** All that a store tells behind some steps, and behind several ways to go on from there. */
final class Telling {
    interface Steps {
        void on(Store x);
    }

    interface Call {
        int on(Store x);
    }

    // Ways to go on that bring to light what no call tells at once: views, synced entries, the job.
    private static final Call[][] ENDINGS = {
        {},
        {x -> x.work(500), Store::install},
        {x -> x.work(1), Store::stop, Store::flush, x -> x.work(500), Store::install},
        {x -> x.crash(0), x -> x.put(7, 7)},
        {Store::sync, x -> x.crash(0)},
        {x -> x.release(0), x -> x.release(1), x -> x.release(2), x -> x.hold(1)},
    };

    private static final Map<Steps, List<Integer>> KEPT = new IdentityHashMap<>();

    private final Steps steps;
    private final List<Integer> told = new ArrayList<>();
    private Store x;

    private Telling(Steps steps) {
        this.steps = steps;
    }

    /** Kept, since many refusals are tried behind the same steps. */
    static List<Integer> behind(Steps steps) {
        return KEPT.computeIfAbsent(steps, s -> behind(s, y -> 0));
    }

    static List<Integer> behind(Steps steps, Call call) {
        List<Integer> told = new ArrayList<>();
        for (Call[] ending : ENDINGS) {
            Store once = new Store();
            steps.on(once);
            call.on(once);
            for (Call one : ending) {
                told.add(one.on(once));
            }
            Telling telling = new Telling(y -> {
                steps.on(y);
                call.on(y);
                for (Call one : ending) {
                    one.on(y);
                }
            });
            telling.askAll();
            told.addAll(telling.told);
        }
        return told;
    }

    /** A store answers 512 calls, so the steps are gone through again where one is used up. */
    private int ask(Call question) {
        if (x == null || x.callsLeft() == 0) {
            x = new Store();
            steps.on(x);
        }
        int answer = question.on(x);
        told.add(answer);
        return answer;
    }

    private void askAll() {
        for (int c = 0; c < 9; c++) {
            int what = c;
            ask(y -> y.count(what));
        }
        ask(Store::high);
        ask(Store::check);
        askLevels();
        for (int k = 0; k < 24; k++) {
            for (int w = 0; w < 3; w++) {
                int at = k;
                int what = w;
                ask(y -> y.log(at, what));
            }
        }
        for (int b = 0; b < 1500; b++) {
            int at = b;
            ask(y -> y.byteAt(at));
        }
        for (int v = -1; v < 3; v++) {
            askKeys(v);
        }
    }

    private void askLevels() {
        for (int l = 0; l < 4; l++) {
            int level = l;
            int files = ask(y -> y.files(level));
            for (int f = 0; f < files; f++) {
                int i = f;
                for (int w = 0; w < 6; w++) {
                    int what = w;
                    ask(y -> y.file(level, i, what));
                }
                int entries = ask(y -> y.file(level, i, 1));
                for (int e = 0; e < 3 * entries; e++) {
                    int at = e;
                    ask(y -> y.entry(level, i, at / 3, at % 3));
                }
            }
        }
    }

    private void askKeys(int view) {
        int from = 0;
        for (int k = 0; k < 1000 && from >= 0 && from < 1000; k++) {
            int key = from;
            int found = ask(y -> y.next(view, key));
            if (found >= 0) {
                ask(y -> view < 0 ? y.get(found) : y.view(view, found));
            }
            from = found + 1;
        }
    }
}
