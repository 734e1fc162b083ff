import java.util.ArrayList;
import java.util.Comparator;
import java.util.HashSet;
import java.util.List;
import java.util.Random;
import java.util.Set;
import java.util.TreeMap;
import java.util.TreeSet;
import java.util.function.Predicate;

// Runs of chosen calls on LevelStore and on a second, slow store; every answer must be the same.
public final class ModelTest {
    private static final int UNKNOWN = -1000001, BAD = -1000002, STATE = -1000003, FULL = -1000004, NONE = -1000009;
    private static final int RUNS = 2500;
    // One step of a run makes up to so many calls.
    private static final int STEP = 30;

    /** An entry; its value is NONE if it is a grave. */
    private record Entry(int key, int number, int value) {
        boolean grave() {
            return value == NONE;
        }

        int told(int what) {
            return what == 0 ? key : what == 1 ? number : value;
        }
    }

    private static final Comparator<Entry> ORDER =
        Comparator.comparingInt(Entry::key).thenComparing(Entry::number, Comparator.reverseOrder());

    private static final class ModelFile {
        final List<Entry> entries;
        final List<Integer> bytes;
        int number;
        int place;

        ModelFile(List<Entry> entries) {
            this.entries = List.copyOf(entries);
            bytes = bytesOf(entries);
        }

        int least() {
            return entries.get(0).key();
        }

        int greatest() {
            return entries.get(entries.size() - 1).key();
        }

        int end() {
            return place + bytes.size();
        }

        private static List<Integer> bytesOf(List<Entry> entries) {
            List<Integer> out = new ArrayList<>();
            out.add(entries.size());
            int ahead = 0;
            for (Entry e : entries) {
                shortNumber(out, e.key() - ahead);
                ahead = e.key();
                shortNumber(out, e.number() * 2 + (e.grave() ? 1 : 0));
                if (!e.grave()) {
                    shortNumber(out, e.value() < 0 ? -2 * e.value() - 1 : 2 * e.value());
                }
            }
            out.add(out.stream().mapToInt(Integer::intValue).sum() % 251);
            return out;
        }

        private static void shortNumber(List<Integer> out, int n) {
            if (n < 128) {
                out.add(n);
            } else {
                out.add(128 + n % 128);
                shortNumber(out, n / 128);
            }
        }
    }

    /** The document once more: nothing is kept that can be worked out again. */
    private static final class Model {
        final int[] field = new int[1500];
        final List<List<ModelFile>> levels =
            List.of(new ArrayList<>(), new ArrayList<>(), new ArrayList<>(), new ArrayList<>());
        final TreeMap<Integer, Integer> views = new TreeMap<>();
        List<Entry> log = new ArrayList<>();
        int synced = 0;
        int latest = 0;
        int fileNumber = 0;

        boolean job = false;
        int into;
        List<ModelFile> sourceFiles = new ArrayList<>();
        List<Entry> todo = new ArrayList<>();
        Set<Entry> kept = new HashSet<>();
        List<Entry> making = new ArrayList<>();
        List<ModelFile> made = new ArrayList<>();
        int flushed;

        int write(int key, int value, boolean grave) {
            if (key < 0 || key > 999 || !grave && Math.abs((long) value) > 100000) return BAD;
            if (log.size() == 24 || latest == 60000) return FULL;
            log.add(new Entry(key, ++latest, grave ? NONE : value));
            return latest;
        }

        int sync() {
            int n = log.size() - synced;
            synced = log.size();
            return n;
        }

        int crash(int keep) {
            if (keep < 0 || keep > log.size() - synced) return BAD;
            log = new ArrayList<>(log.subList(0, synced + keep));
            if (job) stop();
            views.clear();
            latest = everything().stream().mapToInt(Entry::number).max().orElse(0);
            return log.size();
        }

        List<ModelFile> inForce() {
            List<ModelFile> all = new ArrayList<>();
            levels.forEach(all::addAll);
            return all;
        }

        List<Entry> everything() {
            List<Entry> all = new ArrayList<>(log);
            inForce().forEach(f -> all.addAll(f.entries));
            return all;
        }

        int read(int key, int upTo) {
            if (key < 0 || key > 999) return BAD;
            return everything().stream().filter(e -> e.key() == key && e.number() <= upTo)
                .max(Comparator.comparingInt(Entry::number)).map(Entry::value).orElse(NONE);
        }

        int view(int view, int key) {
            return views.containsKey(view) ? read(key, views.get(view)) : UNKNOWN;
        }

        int next(int view, int key) {
            if (view != -1 && !views.containsKey(view)) return UNKNOWN;
            if (key < 0 || key > 999) return BAD;
            int upTo = view == -1 ? Integer.MAX_VALUE : views.get(view);
            TreeSet<Integer> keys = new TreeSet<>();
            everything().forEach(e -> keys.add(e.key()));
            for (int k : keys.tailSet(key)) {
                if (read(k, upTo) != NONE) return k;
            }
            return NONE;
        }

        int hold(int view) {
            if (view < 0 || view > 2) return UNKNOWN;
            if (views.containsKey(view)) return STATE;
            views.put(view, latest);
            return latest;
        }

        int release(int view) {
            return views.containsKey(view) ? views.remove(view) : UNKNOWN;
        }

        int flush() {
            if (job || log.isEmpty()) return STATE;
            flushed = log.size();
            return begin(0, new ArrayList<>(), new ArrayList<>(log));
        }

        int merge(int level, int i) {
            if (level < 0 || level > 2) return UNKNOWN;
            List<ModelFile> row = levels.get(level);
            if (level > 0 && (i < 0 || i >= row.size())) return UNKNOWN;
            if (job || row.isEmpty()) return STATE;
            List<ModelFile> files = new ArrayList<>(level == 0 ? row : List.of(row.get(i)));
            int least = files.stream().mapToInt(ModelFile::least).min().getAsInt();
            int greatest = files.stream().mapToInt(ModelFile::greatest).max().getAsInt();
            for (ModelFile f : levels.get(level + 1)) {
                boolean reaches = false;
                for (int key = f.least(); key <= f.greatest(); key++) {
                    reaches |= key >= least && key <= greatest;
                }
                if (reaches) files.add(f);
            }
            List<Entry> entries = new ArrayList<>();
            files.forEach(f -> entries.addAll(f.entries));
            flushed = 0;
            return begin(level + 1, files, entries);
        }

        int begin(int into, List<ModelFile> files, List<Entry> entries) {
            job = true;
            this.into = into;
            sourceFiles = files;
            todo = entries;
            todo.sort(ORDER);
            kept = kept(todo);
            making = new ArrayList<>();
            made = new ArrayList<>();
            return todo.size();
        }

        /** Kept is what is read now or in a view; at the last level the oldest kept graves go. */
        Set<Entry> kept(List<Entry> entries) {
            TreeMap<Integer, List<Entry>> byKey = new TreeMap<>();
            entries.forEach(e -> byKey.computeIfAbsent(e.key(), k -> new ArrayList<>()).add(e));
            Set<Entry> all = new HashSet<>();
            for (List<Entry> of : byKey.values()) {
                List<Entry> keep = new ArrayList<>();
                for (Entry e : of) {
                    Predicate<Integer> reads = v -> of.stream().filter(o -> o.number() <= v).findFirst().orElse(null) == e;
                    if (reads.test(Integer.MAX_VALUE) || views.values().stream().anyMatch(reads)) keep.add(e);
                }
                while (into == 3 && !keep.isEmpty() && keep.get(keep.size() - 1).grave()) {
                    keep.remove(keep.size() - 1);
                }
                all.addAll(keep);
            }
            return all;
        }

        int work(int n) {
            if (n < 1 || n > 500) return BAD;
            if (!job || todo.isEmpty()) return STATE;
            for (int k = 0; k < n && !todo.isEmpty(); k++) {
                Entry e = todo.remove(0);
                if (!kept.contains(e)) continue;
                boolean ends = into > 0 && making.size() >= 8 && making.get(making.size() - 1).key() != e.key();
                if (ends && !end()) return fail();
                making.add(e);
            }
            if (todo.isEmpty() && !making.isEmpty() && !end()) return fail();
            return todo.size();
        }

        int fail() {
            stop();
            return FULL;
        }

        boolean end() {
            ModelFile file = new ModelFile(making);
            making = new ArrayList<>();
            List<ModelFile> beside = inForce();
            beside.addAll(made);
            for (int at = 0; at + file.bytes.size() <= 1500; at++) {
                file.place = at;
                if (beside.stream().allMatch(f -> f.end() <= file.place || f.place >= file.end())) {
                    for (int k = 0; k < file.bytes.size(); k++) field[at + k] = file.bytes.get(k);
                    file.number = fileNumber++;
                    made.add(file);
                    return true;
                }
            }
            return false;
        }

        int install() {
            if (!job || !todo.isEmpty()) return STATE;
            levels.forEach(row -> row.removeAll(sourceFiles));
            levels.get(into).addAll(made);
            if (into > 0) levels.get(into).sort(Comparator.comparingInt(ModelFile::least));
            log = new ArrayList<>(log.subList(flushed, log.size()));
            synced = Math.max(0, synced - flushed);
            job = false;
            return made.size();
        }

        int stop() {
            if (!job) return STATE;
            job = false;
            fileNumber -= made.size();
            return made.size();
        }

        int high() {
            return levels.get(0).size() > 3 ? 0 : levels.get(1).size() > 3 ? 1 : levels.get(2).size() > 6 ? 2 : NONE;
        }

        int files(int level) {
            return level < 0 || level > 3 ? UNKNOWN : levels.get(level).size();
        }

        int file(int level, int i, int what) {
            if (level < 0 || level > 3 || i < 0 || i >= files(level)) return UNKNOWN;
            ModelFile f = levels.get(level).get(i);
            if (what < 0 || what > 5) return BAD;
            return new int[] {f.number, f.entries.size(), f.least(), f.greatest(), f.place, f.bytes.size()}[what];
        }

        int entry(int level, int i, int k, int what) {
            if (level < 0 || level > 3 || i < 0 || i >= files(level)) return UNKNOWN;
            return told(levels.get(level).get(i).entries, k, what);
        }

        int told(List<Entry> row, int k, int what) {
            return k < 0 || k >= row.size() || what < 0 || what > 2 ? BAD : row.get(k).told(what);
        }

        int byteAt(int i) {
            return i < 0 || i > 1499 ? BAD : field[i];
        }

        int count(int what) {
            switch (what) {
                case 0: return log.size();
                case 1: return synced;
                case 2: return latest;
                case 3: return inForce().size();
                case 4: return inForce().stream().mapToInt(f -> f.bytes.size()).sum();
                case 5: return job ? todo.size() : NONE;
                case 6: return job ? made.size() : 0;
                case 7: return fileNumber;
                case 8: return everything().size() - log.size();
                default: return BAD;
            }
        }
    }

    /** Both stores side by side, and the choice of calls. */
    private static final class Pair {
        final Store x = new Store();
        final Model m = new Model();
        final List<Telling.Call> calls = new ArrayList<>();
        final Random random;
        final int run;
        final int keySpan;
        final int valueSpan;
        final int graves;
        final int haste;
        final int wild;
        final int spared;
        final boolean crowding;
        Store again;

        Pair(int run) {
            this.run = run;
            random = new Random(run);
            // Every fourth run fills the field: wide keys and values, few graves, few merges.
            crowding = run % 4 == 0;
            keySpan = crowding ? pick(150, 1000) : pick(4, 12, 40, 150, 1000);
            valueSpan = crowding ? 100000 : pick(3, 100, 20000, 100000);
            graves = crowding ? 5 : pick(0, 10, 30, 60, 95);
            haste = pick(1, 4, 30, 500);
            wild = pick(2, 10, 40);
            spared = STEP + pick(0, 50, 100, crowding ? 100 : 300);
        }

        int pick(int... of) {
            return of[random.nextInt(of.length)];
        }

        boolean chance(int percent) {
            return random.nextInt(100) < percent;
        }

        int near(int from, int to) {
            return chance(wild) ? pick(from - 1, to + 1, Integer.MIN_VALUE, Integer.MAX_VALUE, from, to)
                : from + random.nextInt(Math.max(1, to - from + 1));
        }

        int key() {
            return chance(wild / 2) ? near(0, 999) : random.nextInt(keySpan) * (999 / keySpan == 0 ? 1 : 999 / keySpan);
        }

        int value() {
            return chance(wild / 2) ? near(-100000, 100000) : random.nextInt(2 * valueSpan + 1) - valueSpan;
        }

        void call(Telling.Call call, int want) {
            calls.add(call);
            due(call.on(x), want);
        }

        void due(int got, int want) {
            answers++;
            if (got != want) {
                wrong++;
                if (wrong < 50) {
                    System.out.println("run " + run + ", behind " + calls.size() + " calls: " + Store.lastCall()
                        + " answered " + got + ", due is " + want);
                }
            }
        }

        void write() {
            int key = key();
            int value = value();
            if (chance(graves)) {
                call(y -> y.drop(key), m.write(key, 0, true));
            } else {
                call(y -> y.put(key, value), m.write(key, value, false));
            }
        }

        void merge(int level, int i) {
            int want = m.merge(level, i);
            if (want > 0) begun[level]++;
            call(y -> y.merge(level, i), want);
        }

        void work(int n) {
            int want = m.work(n);
            if (want == FULL) failed++;
            call(y -> y.work(n), want);
        }

        void jobStep() {
            switch (random.nextInt(6)) {
                case 0:
                    call(Store::flush, m.flush());
                    break;
                case 1: {
                    int level = near(0, 2);
                    merge(level, near(0, Math.max(0, m.files(level) - 1)));
                    break;
                }
                case 2: case 3:
                    work(chance(50) ? near(1, haste) : near(1, 500));
                    break;
                case 4:
                    call(Store::install, m.install());
                    break;
                default:
                    if (chance(15)) call(Store::stop, m.stop());
            }
        }

        /** The job is brought to its end, and the next one begins. */
        void settle() {
            if (m.job && !m.todo.isEmpty()) work(500);
            if (m.job) call(Store::install, m.install());
            if (crowding && chance(90)) {
                while (m.log.size() < 18) write();
                call(Store::flush, m.flush());
                return;
            }
            int high = m.high();
            if (high != NONE && chance(60)) {
                merge(high, random.nextInt(m.files(high)));
            } else if (chance(50)) {
                call(Store::flush, m.flush());
            } else {
                merge(random.nextInt(3), 0);
            }
        }

        void viewStep() {
            int v = near(0, 2);
            if (chance(60)) {
                call(y -> y.hold(v), m.hold(v));
            } else {
                call(y -> y.release(v), m.release(v));
            }
        }

        void readStep() {
            int key = key();
            int v = near(-1, 2);
            call(y -> y.get(key), m.read(key, Integer.MAX_VALUE));
            call(y -> y.view(v, key), m.view(v, key));
            call(y -> y.next(v, key), m.next(v, key));
        }

        void tellStep() {
            int level = near(0, 3);
            int i = near(0, Math.max(0, m.files(level) - 1));
            int k = near(0, 10);
            int what = near(0, 5);
            call(y -> y.files(level), m.files(level));
            call(y -> y.file(level, i, what), m.file(level, i, what));
            call(y -> y.entry(level, i, k, what), m.entry(level, i, k, what));
            call(y -> y.log(k, what), m.told(m.log, k, what));
            int c = near(0, 8);
            call(y -> y.count(c), m.count(c));
            int b = near(0, 1499);
            call(y -> y.byteAt(b), m.byteAt(b));
        }

        void rareStep() {
            if (chance(60)) {
                call(Store::sync, m.sync());
            } else if (chance(40)) {
                int keep = near(0, Math.max(0, m.log.size() - m.synced));
                call(y -> y.crash(keep), m.crash(keep));
            } else {
                call(Store::check, 0);
            }
        }

        /** A store answers 512 calls, so the run is gone through again where one is used up. */
        void told(Telling.Call question, int want) {
            if (again == null || again.callsLeft() == 0) {
                again = new Store();
                for (Telling.Call call : calls) call.on(again);
            }
            due(question.on(again), want);
        }

        void tellAll() {
            for (int c = 0; c < 9; c++) {
                int what = c;
                told(y -> y.count(what), m.count(what));
            }
            told(Store::check, 0);
            told(Store::high, m.high());
            for (int level = 0; level < 4; level++) tellLevel(level);
            for (int e = 0; e < 3 * m.log.size(); e++) {
                int at = e;
                told(y -> y.log(at / 3, at % 3), m.told(m.log, at / 3, at % 3));
            }
            for (int b = 0; b < 1500; b++) {
                int at = b;
                told(y -> y.byteAt(at), m.byteAt(at));
            }
            for (int v = -1; v < 3; v++) tellKeys(v);
        }

        void tellLevel(int level) {
            told(y -> y.files(level), m.files(level));
            for (int f = 0; f < m.files(level); f++) {
                int i = f;
                for (int w = 0; w < 6; w++) {
                    int what = w;
                    told(y -> y.file(level, i, what), m.file(level, i, what));
                }
                for (int e = 0; e < 3 * m.file(level, i, 1); e++) {
                    int at = e;
                    told(y -> y.entry(level, i, at / 3, at % 3), m.entry(level, i, at / 3, at % 3));
                }
            }
        }

        void tellKeys(int view) {
            int from = 0;
            while (from >= 0 && from < 1000) {
                int key = from;
                int found = m.next(view, key);
                told(y -> y.next(view, key), found);
                if (found >= 0 && view >= 0) told(y -> y.view(view, found), m.view(view, found));
                if (found >= 0 && view < 0) told(y -> y.get(found), m.read(found, Integer.MAX_VALUE));
                from = found < 0 ? NONE : found + 1;
            }
        }

        void go() {
            while (x.callsLeft() > spared && wrong < 50) {
                int at = random.nextInt(100);
                if (at < 60) write();
                else if (at < 72) jobStep();
                else if (at < 86) settle();
                else if (at < 92) viewStep();
                else if (at < 94) readStep();
                else if (at < 95) tellStep();
                else rareStep();
            }
            tellAll();
            deepest = Math.max(deepest, m.files(3));
            fullest = Math.max(fullest, m.count(4));
        }
    }

    private static long answers = 0;
    private static int wrong = 0;
    private static int failed = 0;
    private static int deepest = 0;
    private static int fullest = 0;
    private static final int[] begun = new int[3];

    public static void main(String[] args) {
        for (int run = 0; run < RUNS && wrong < 50; run++) {
            new Pair(run).go();
        }
        System.out.println(answers + " answers compared, " + wrong + " not as due; jobs failed: " + failed
            + ", merges of levels 0, 1, 2: " + begun[0] + ", " + begun[1] + ", " + begun[2]
            + ", most files in level 3: " + deepest + ", most bytes: " + fullest);
        boolean thin = failed < 20 || begun[0] < 100 || begun[1] < 100 || begun[2] < 100 || deepest < 5 || fullest < 1400;
        if (thin) System.out.println("the runs no longer reach what they should try");
        if (wrong != 0 || thin) System.exit(1);
    }
}
