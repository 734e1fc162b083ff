import java.util.ArrayList;

/**
 * A store of numbers by keys: a log, a table in memory, sorted files in four levels that jobs
 * merge step by step, views of old states, and one field of bytes in which the files lie.
 */
public final class LevelStore {
    public static final int UNKNOWN = -1000001, BAD = -1000002, STATE = -1000003, FULL = -1000004, NONE = -1000009;

    private static final int KEYS = 1000;
    private static final int VALUE_LIMIT = 100000;
    private static final int NUMBER_LIMIT = 60000;
    private static final int TABLE_ROOM = 24;
    private static final int NO_VIEW = -1;
    private static final int LAST_LEVEL = 3;
    private static final int NO_LEVEL = -1;
    private static final int FIELD_BYTES = 1500;
    private static final int NO_ROOM = -1;
    private static final int WORK_LIMIT = 500;
    private static final int CHECKSUM = 251;

    // A merge ends a file of this many entries at the next key.
    private static final int ENOUGH_ENTRIES = 8;

    // A flush makes the longest file: a merge adds at most four entries of one key to seven others.
    private static final int FILE_ROOM = TABLE_ROOM;

    // Two bytes (key) and three each (number, value) for an entry; the count and the sum beside.
    private static final int CODE_ROOM = 2 + FILE_ROOM * 8;

    // No entry takes less than two bytes of the field, so sources never have more entries.
    private static final int SOURCE_ROOM = FIELD_BYTES / 2;

    // The table has the log's entries, so the log serves for both: a flush sorts them as it begins.
    private final Row logged;
    private int synced;
    private int latest;
    private final int[] views;
    private final FileRow[] levels;
    private final FileRow spare;
    private final Field field;
    private final Reading reading;
    private final Job job;
    private int nextFileNumber;

    public LevelStore() {
        logged = new Row(TABLE_ROOM);
        views = new int[] {NO_VIEW, NO_VIEW, NO_VIEW};
        levels = new FileRow[] {new FileRow(), new FileRow(), new FileRow(), new FileRow()};
        spare = new FileRow();
        field = new Field();
        reading = new Reading();
        job = new Job();
    }

    // ---- writing

    public int put(int key, int value) {
        if (!isKey(key) || value < -VALUE_LIMIT || value > VALUE_LIMIT) {
            return BAD;
        }
        return write(key, value);
    }

    public int drop(int key) {
        if (!isKey(key)) {
            return BAD;
        }
        return write(key, NONE);
    }

    public int sync() {
        int fresh = logged.size - synced;
        synced = logged.size;
        return fresh;
    }

    public int crash(int keep) {
        if (keep < 0 || keep > logged.size - synced) {
            return BAD;
        }
        logged.size = synced + keep;
        giveUpJob();
        for (int v = 0; v < views.length; v++) {
            views[v] = NO_VIEW;
        }
        latest = greatestNumberLeft();
        return logged.size;
    }

    // ---- reading

    public int get(int key) {
        if (!isKey(key)) {
            return BAD;
        }
        return readUpTo(key, latest);
    }

    public int view(int view, int key) {
        if (!isHeld(view)) {
            return UNKNOWN;
        }
        if (!isKey(key)) {
            return BAD;
        }
        return readUpTo(key, numberOfView(view));
    }

    public int next(int view, int key) {
        boolean now = view == NO_VIEW;
        if (!now && !isHeld(view)) {
            return UNKNOWN;
        }
        if (!isKey(key)) {
            return BAD;
        }
        reading.begin(key, KEYS - 1, now ? latest : numberOfView(view));
        readAll();
        return reading.leastKeyWithValue();
    }

    public int hold(int view) {
        if (!isView(view)) {
            return UNKNOWN;
        }
        if (isHeld(view)) {
            return STATE;
        }
        views[view] = latest;
        return latest;
    }

    public int release(int view) {
        if (!isHeld(view)) {
            return UNKNOWN;
        }
        int number = numberOfView(view);
        views[view] = NO_VIEW;
        return number;
    }

    // ---- jobs

    public int flush() {
        if (job.there || logged.size == 0) {
            return STATE;
        }
        job.begin(NO_LEVEL, 0);
        job.targetFrom = files(0);
        job.targetTo = job.targetFrom;
        for (int k = 0; k < logged.size; k++) {
            job.sources.insert(logged.key(k), logged.number(k), logged.value(k));
        }
        job.decide(views);
        return job.left();
    }

    public int merge(int level, int i) {
        FileRow from = levelAt(level);
        FileRow into = levelAt(level + 1);
        if (from == null || into == null || level > 0 && from.at(i) == null) {
            return UNKNOWN;
        }
        if (job.there || from.size() == 0) {
            return STATE;
        }
        job.begin(level, level + 1);
        job.levelFrom = level == 0 ? 0 : i;
        job.levelTo = level == 0 ? from.size() : i + 1;
        job.targetFrom = into.howManyEndBelow(from.leastKey(job.levelFrom, job.levelTo));
        job.targetTo = into.howManyBeginUpTo(from.greatestKey(job.levelFrom, job.levelTo));
        // The target's files first: they stand in order, so that they are only strung together.
        into.mergeInto(job.sources, job.targetFrom, job.targetTo);
        from.mergeInto(job.sources, job.levelFrom, job.levelTo);
        job.decide(views);
        return job.left();
    }

    public int work(int n) {
        if (n < 1 || n > WORK_LIMIT) {
            return BAD;
        }
        if (!job.there || job.left() == 0) {
            return STATE;
        }
        boolean roomy = true;
        for (int k = 0; k < n && roomy && job.left() > 0; k++) {
            roomy = doOneEntry();
        }
        if (roomy && job.left() == 0) {
            roomy = endFile();
        }
        if (!roomy) {
            giveUpJob();
            return FULL;
        }
        return job.left();
    }

    public int install() {
        if (!job.there || job.left() > 0) {
            return STATE;
        }
        int made = job.made.size();
        retire(levelAt(job.level), job.levelFrom, job.levelTo);
        FileRow into = levelAt(job.target);
        retire(into, job.targetFrom, job.targetTo);
        for (int k = 0; k < made && into != null; k++) {
            into.insert(job.targetFrom + k, job.made.at(k));
        }
        if (job.level == NO_LEVEL) {
            loseFirstLogged(job.sources.size);
        }
        job.end();
        return made;
    }

    public int stop() {
        if (!job.there) {
            return STATE;
        }
        return giveUpJob();
    }

    // ---- what is told

    public int high() {
        for (int level = 0; level < LAST_LEVEL; level++) {
            int most = level == 2 ? 6 : 3;
            if (files(level) > most) {
                return level;
            }
        }
        return NONE;
    }

    public int files(int level) {
        FileRow row = levelAt(level);
        return row == null ? UNKNOWN : row.size();
    }

    public int file(int level, int i, int what) {
        SortedFile file = fileAt(level, i);
        if (file == null) {
            return UNKNOWN;
        }
        switch (what) {
            case 0: return file.number;
            case 1: return file.entries.size;
            case 2: return file.leastKey();
            case 3: return file.greatestKey();
            case 4: return file.place;
            case 5: return file.length;
            default: return BAD;
        }
    }

    public int entry(int level, int i, int k, int what) {
        SortedFile file = fileAt(level, i);
        return file == null ? UNKNOWN : file.entries.told(k, what);
    }

    public int byteAt(int i) {
        return field.has(i) ? field.bytes[i] : BAD;
    }

    public int log(int k, int what) {
        return logged.told(k, what);
    }

    public int count(int what) {
        switch (what) {
            case 0: return logged.size;
            case 1: return synced;
            case 2: return latest;
            case 3: return filesInForce();
            case 4: return bytesInForce();
            case 5: return job.there ? job.left() : NONE;
            case 6: return job.made.size();
            case 7: return nextFileNumber;
            case 8: return entriesInForce();
            default: return BAD;
        }
    }

    public int check() {
        int broken = 0;
        for (FileRow level : levels) {
            for (int i = 0; i < level.size(); i++) {
                SortedFile file = level.at(i);
                if (file != null && !field.holds(file)) {
                    broken++;
                }
            }
        }
        return broken;
    }

    // ---- writing, from within

    private static boolean isKey(int key) {
        return key >= 0 && key < KEYS;
    }

    private int write(int key, int value) {
        if (logged.size >= TABLE_ROOM || latest >= NUMBER_LIMIT) {
            return FULL;
        }
        latest++;
        logged.add(key, latest, value);
        return latest;
    }

    private void loseFirstLogged(int n) {
        logged.loseFirst(n);
        synced = Math.max(0, synced - n);
    }

    private int greatestNumberLeft() {
        int greatest = logged.greatestNumber();
        for (FileRow level : levels) {
            greatest = Math.max(greatest, level.greatestNumber());
        }
        return greatest;
    }

    // ---- reading, from within

    private boolean isView(int view) {
        return view >= 0 && view < views.length;
    }

    private int numberOfView(int view) {
        return isView(view) ? views[view] : NO_VIEW;
    }

    private boolean isHeld(int view) {
        return numberOfView(view) != NO_VIEW;
    }

    private int readUpTo(int key, int number) {
        reading.begin(key, key, number);
        readAll();
        return reading.valueOf(key);
    }

    private void readAll() {
        reading.take(logged);
        for (FileRow level : levels) {
            level.letRead(reading);
        }
    }

    // ---- jobs, from within

    /** False: a file ended and found no room. */
    private boolean doOneEntry() {
        int k = job.done;
        job.done++;
        if (job.isLeftOut(k)) {
            return true;
        }
        if (job.endsFileAhead(k) && !endFile()) {
            return false;
        }
        job.making.add(job.sources.key(k), job.sources.number(k), job.sources.value(k));
        return true;
    }

    /** False: it found no room. A file without entries is not made. */
    private boolean endFile() {
        if (job.making.size == 0) {
            return true;
        }
        SortedFile file = freshFile();
        file.entries.takeAll(job.making);
        job.making.size = 0;
        if (!field.lay(file)) {
            spare.add(file);
            return false;
        }
        file.number = nextFileNumber;
        nextFileNumber++;
        job.made.add(file);
        return true;
    }

    /** A file that is out of use, if there is one: so a long run makes few objects. */
    private SortedFile freshFile() {
        SortedFile used = spare.takeOut(spare.size() - 1);
        return used == null ? new SortedFile() : used;
    }

    private int giveUpJob() {
        int made = job.made.size();
        retire(job.made, 0, made);
        nextFileNumber -= made;
        job.end();
        return made;
    }

    private void retire(FileRow row, int from, int to) {
        if (row == null) {
            return;
        }
        for (int i = to - 1; i >= from; i--) {
            SortedFile file = row.takeOut(i);
            if (file != null) {
                field.free(file);
                spare.add(file);
            }
        }
    }

    // ---- what is told, from within

    private FileRow levelAt(int level) {
        return level >= 0 && level < levels.length ? levels[level] : null;
    }

    private SortedFile fileAt(int level, int i) {
        FileRow row = levelAt(level);
        return row == null ? null : row.at(i);
    }

    private int filesInForce() {
        int sum = 0;
        for (FileRow level : levels) {
            sum += level.size();
        }
        return sum;
    }

    private int bytesInForce() {
        int sum = 0;
        for (FileRow level : levels) {
            sum += level.bytes();
        }
        return sum;
    }

    private int entriesInForce() {
        int sum = 0;
        for (FileRow level : levels) {
            sum += level.entries();
        }
        return sum;
    }

    /** Entries in a row. A grave is held as the value NONE, which no put can give. */
    private static final class Row {
        final int[] keys;
        final int[] numbers;
        final int[] values;
        int size;

        Row(int room) {
            int length = Math.max(0, room);
            keys = new int[length];
            numbers = new int[length];
            values = new int[length];
        }

        boolean has(int k) {
            return k >= 0 && k < size;
        }

        // These three look at k themselves: asking has() would make the deepest calls one deeper.
        int key(int k) {
            return k >= 0 && k < size ? keys[k] : NONE;
        }

        int number(int k) {
            return k >= 0 && k < size ? numbers[k] : NONE;
        }

        int value(int k) {
            return k >= 0 && k < size ? values[k] : NONE;
        }

        boolean isGrave(int k) {
            return value(k) == NONE;
        }

        int told(int k, int what) {
            if (!has(k)) {
                return BAD;
            }
            switch (what) {
                case 0: return key(k);
                case 1: return number(k);
                case 2: return value(k);
                default: return BAD;
            }
        }

        void setAt(int k, int key, int number, int value) {
            if (has(k)) {
                keys[k] = key;
                numbers[k] = number;
                values[k] = value;
            }
        }

        void copyTo(int k, Row other, int j) {
            setAt(k, other.key(j), other.number(j), other.value(j));
        }

        void add(int key, int number, int value) {
            if (size < keys.length) {
                size++;
                setAt(size - 1, key, number, value);
            }
        }

        void takeAll(Row other) {
            size = Math.min(other.size, keys.length);
            for (int k = 0; k < size; k++) {
                copyTo(k, other, k);
            }
        }

        /** Whether entry k stands behind one of that key and number in a sorted row. */
        boolean standsBehind(int k, int key, int number) {
            return key(k) > key || key(k) == key && number(k) < number;
        }

        /** Into a sorted row, which stays sorted. */
        void insert(int key, int number, int value) {
            if (size >= keys.length) {
                return;
            }
            size++;
            int to = size - 1;
            for (; to > 0 && standsBehind(to - 1, key, number); to--) {
                copyTo(to, this, to - 1);
            }
            setAt(to, key, number, value);
        }

        /** Both rows are sorted. From the back, so that nothing is written over that is still to move. */
        void mergeIn(Row other) {
            int mine = size - 1;
            int theirs = other.size - 1;
            int both = size + other.size;
            if (both > keys.length) {
                return;
            }
            size = both;
            for (int to = both - 1; to >= 0 && theirs >= 0; to--) {
                if (mine >= 0 && standsBehind(mine, other.key(theirs), other.number(theirs))) {
                    copyTo(to, this, mine);
                    mine--;
                } else {
                    copyTo(to, other, theirs);
                    theirs--;
                }
            }
        }

        void loseFirst(int n) {
            int lost = Math.max(0, Math.min(n, size));
            for (int k = lost; k < size; k++) {
                copyTo(k - lost, this, k);
            }
            size -= lost;
        }

        int greatestNumber() {
            int greatest = 0;
            for (int k = 0; k < size; k++) {
                greatest = Math.max(greatest, number(k));
            }
            return greatest;
        }
    }

    /** A sorted row of entries with its number, and where its bytes lie in the field. */
    private static final class SortedFile {
        final Row entries;
        int number;
        int place;
        int length;

        SortedFile() {
            entries = new Row(FILE_ROOM);
        }

        int leastKey() {
            return entries.key(0);
        }

        int greatestKey() {
            return entries.key(entries.size - 1);
        }
    }

    /** Files in a row: those of a level, those a job made, or those out of use. */
    private static final class FileRow {
        private final ArrayList<SortedFile> row;

        FileRow() {
            row = new ArrayList<>();
        }

        int size() {
            return row.size();
        }

        SortedFile at(int i) {
            return i >= 0 && i < row.size() ? row.get(i) : null;
        }

        void add(SortedFile file) {
            insert(row.size(), file);
        }

        void insert(int i, SortedFile file) {
            if (file != null && i >= 0 && i <= row.size()) {
                row.add(i, file);
            }
        }

        SortedFile takeOut(int i) {
            return i >= 0 && i < row.size() ? row.remove(i) : null;
        }

        void empty() {
            row.clear();
        }

        int leastKey(int from, int to) {
            int least = KEYS;
            for (int i = from; i < to; i++) {
                SortedFile file = at(i);
                if (file != null) {
                    least = Math.min(least, file.leastKey());
                }
            }
            return least;
        }

        int greatestKey(int from, int to) {
            int greatest = -1;
            for (int i = from; i < to; i++) {
                SortedFile file = at(i);
                if (file != null) {
                    greatest = Math.max(greatest, file.greatestKey());
                }
            }
            return greatest;
        }

        int howManyEndBelow(int key) {
            int many = 0;
            for (int i = 0; i < row.size(); i++) {
                SortedFile file = at(i);
                if (file != null && file.greatestKey() < key) {
                    many++;
                }
            }
            return many;
        }

        int howManyBeginUpTo(int key) {
            int many = 0;
            for (int i = 0; i < row.size(); i++) {
                SortedFile file = at(i);
                if (file != null && file.leastKey() <= key) {
                    many++;
                }
            }
            return many;
        }

        void mergeInto(Row sources, int from, int to) {
            for (int i = from; i < to; i++) {
                SortedFile file = at(i);
                if (file != null) {
                    sources.mergeIn(file.entries);
                }
            }
        }

        void letRead(Reading reading) {
            for (int i = 0; i < row.size(); i++) {
                SortedFile file = at(i);
                if (file != null && reading.concerns(file)) {
                    reading.take(file.entries);
                }
            }
        }

        int bytes() {
            int sum = 0;
            for (int i = 0; i < row.size(); i++) {
                SortedFile file = at(i);
                sum += file == null ? 0 : file.length;
            }
            return sum;
        }

        int entries() {
            int sum = 0;
            for (int i = 0; i < row.size(); i++) {
                SortedFile file = at(i);
                sum += file == null ? 0 : file.entries.size;
            }
            return sum;
        }

        int greatestNumber() {
            int greatest = 0;
            for (int i = 0; i < row.size(); i++) {
                SortedFile file = at(i);
                if (file != null) {
                    greatest = Math.max(greatest, file.entries.greatestNumber());
                }
            }
            return greatest;
        }
    }

    /** The bytes in which files lie, which of them are taken, and the bytes of one file to be laid. */
    private static final class Field {
        final int[] bytes;
        final boolean[] taken;
        final int[] code;
        int codeLength;

        Field() {
            bytes = new int[FIELD_BYTES];
            taken = new boolean[FIELD_BYTES];
            code = new int[CODE_ROOM];
        }

        boolean has(int i) {
            return i >= 0 && i < FIELD_BYTES && i < bytes.length && i < taken.length;
        }

        /** False, and nothing is written, if there is no room. */
        boolean lay(SortedFile file) {
            encode(file.entries);
            int place = firstRoom(codeLength);
            if (place == NO_ROOM) {
                return false;
            }
            file.place = place;
            file.length = codeLength;
            for (int k = 0; k < codeLength && k < code.length; k++) {
                if (has(place + k)) {
                    bytes[place + k] = code[k];
                }
            }
            mark(file, true);
            return true;
        }

        /** The bytes stay: only the room is free. */
        void free(SortedFile file) {
            mark(file, false);
        }

        boolean holds(SortedFile file) {
            encode(file.entries);
            boolean same = codeLength == file.length;
            for (int k = 0; same && k < codeLength && k < code.length; k++) {
                same = has(file.place + k) && bytes[file.place + k] == code[k];
            }
            return same;
        }

        private void mark(SortedFile file, boolean mark) {
            for (int k = 0; k < file.length; k++) {
                if (has(file.place + k)) {
                    taken[file.place + k] = mark;
                }
            }
        }

        private int firstRoom(int length) {
            int free = 0;
            for (int i = 0; i < taken.length; i++) {
                free = taken[i] ? 0 : free + 1;
                if (free == length) {
                    return i + 1 - length;
                }
            }
            return NO_ROOM;
        }

        private void encode(Row entries) {
            codeLength = 0;
            emit(entries.size);
            int keyAhead = 0;
            for (int k = 0; k < entries.size; k++) {
                emitShort(entries.key(k) - keyAhead);
                keyAhead = entries.key(k);
                int twice = 2 * entries.number(k);
                if (entries.isGrave(k)) {
                    emitShort(twice + 1);
                } else {
                    emitShort(twice);
                    emitShort(folded(entries.value(k)));
                }
            }
            emit(sumOfCode() % CHECKSUM);
        }

        private static int folded(int value) {
            return value >= 0 ? 2 * value : -2 * value - 1;
        }

        private void emitShort(int number) {
            int rest = number;
            for (int k = 0; k < 4 && rest > 127; k++) {
                emit(128 + (rest & 127));
                rest = rest >> 7;
            }
            emit(rest);
        }

        private void emit(int oneByte) {
            if (codeLength < code.length) {
                code[codeLength] = oneByte;
                codeLength++;
            }
        }

        private int sumOfCode() {
            int sum = 0;
            for (int k = 0; k < codeLength && k < code.length; k++) {
                sum += code[k];
            }
            return sum;
        }
    }

    /** What is read of the keys of a span up to a number, gathered from one row after another. */
    private static final class Reading {
        final int[] numbers;
        final int[] values;
        int from;
        int to;
        int upTo;

        Reading() {
            numbers = new int[KEYS];
            values = new int[KEYS];
        }

        void begin(int leastKey, int greatestKey, int number) {
            from = Math.max(0, leastKey);
            to = Math.min(KEYS - 1, greatestKey);
            upTo = number;
            for (int key = from; key <= to; key++) {
                numbers[key] = 0;
                values[key] = NONE;
            }
        }

        boolean concerns(SortedFile file) {
            return file.leastKey() <= to && file.greatestKey() >= from;
        }

        void take(Row row) {
            for (int k = 0; k < row.size; k++) {
                int key = row.key(k);
                int number = row.number(k);
                if (key >= from && key <= to && number <= upTo && number > numbers[key]) {
                    numbers[key] = number;
                    values[key] = row.value(k);
                }
            }
        }

        int valueOf(int key) {
            return key >= from && key <= to ? values[key] : NONE;
        }

        int leastKeyWithValue() {
            for (int key = from; key <= to; key++) {
                if (values[key] != NONE) {
                    return key;
                }
            }
            return NONE;
        }
    }

    /** The one job: its sources as one sorted row, what is left out of them, and what is made. */
    private static final class Job {
        boolean there;
        // No level changes while there is a job, so sources are told by where they stand.
        int level;
        int levelFrom;
        int levelTo;
        int target;
        int targetFrom;
        int targetTo;
        final Row sources;
        final boolean[] leftOut;
        int done;
        final Row making;
        final FileRow made;

        Job() {
            sources = new Row(SOURCE_ROOM);
            leftOut = new boolean[SOURCE_ROOM];
            making = new Row(FILE_ROOM);
            made = new FileRow();
        }

        /** Its sources are still to be told. */
        void begin(int fromLevel, int intoLevel) {
            there = true;
            level = fromLevel;
            target = intoLevel;
        }

        /** The files that it made have been taken over, or have gone. */
        void end() {
            there = false;
            sources.size = 0;
            done = 0;
            making.size = 0;
            made.empty();
        }

        int left() {
            return sources.size - done;
        }

        boolean isLeftOut(int k) {
            return k >= 0 && k < leftOut.length && leftOut[k];
        }

        /** As the job begins: later views do not change what is left out. */
        void decide(int[] views) {
            for (int k = 0; k < sources.size && k < leftOut.length; k++) {
                leftOut[k] = !isFirstOfKey(k) && !isSeen(k, views);
            }
            if (target == LAST_LEVEL) {
                leaveOutGraves();
            }
        }

        /** Nothing lies below the last level that a grave would have to cover. */
        private void leaveOutGraves() {
            boolean covers = false;
            for (int k = Math.min(sources.size, leftOut.length) - 1; k >= 0; k--) {
                if (isLastOfKey(k)) {
                    covers = false;
                }
                if (!leftOut[k] && sources.isGrave(k)) {
                    leftOut[k] = !covers;
                } else if (!leftOut[k]) {
                    covers = true;
                }
            }
        }

        private boolean isFirstOfKey(int k) {
            return k == 0 || sources.key(k - 1) != sources.key(k);
        }

        private boolean isLastOfKey(int k) {
            return k == sources.size - 1 || isFirstOfKey(k + 1);
        }

        private boolean isSeen(int k, int[] views) {
            for (int view : views) {
                if (view >= sources.number(k) && view < sources.number(k - 1)) {
                    return true;
                }
            }
            return false;
        }

        boolean endsFileAhead(int k) {
            return level != NO_LEVEL && making.size >= ENOUGH_ENTRIES
                && making.key(making.size - 1) != sources.key(k);
        }
    }
}
