// The terms, part 2: files, their numbers, levels and bytes, the field and its rooms.
public final class FilesTest extends Sentences {
    public static void main(String[] args) {
        numberedAsTheyEnd();
        stoppedGiveNumbersBack();
        failedGiveNumbersBack();
        crashedGiveNumbersBack();
        laterFilesOfLevel0();
        levelsStandByKeys();
        level0IsHigh();
        level1IsHigh();
        level2IsHigh();
        level3NeverIs();
        howManyEntries();
        keyLessTheOneAhead();
        firstKey();
        twiceTheNumber();
        oneMoreForAGrave();
        foldedValues();
        sevenBitsAByte();
        longestFile();
        sumOfTheBytes();
        fieldAtFirst();
        firstRoomLongEnough();
        firstRoomNotTheTightest();
        roomOfSourcesIsTaken();
        roomOfFilesBeingMade();
        roomWhenItIsReady();
        roomToTheLastByte();
        noRoomByOneByte();
        gapsAreNotAddedUp();
        whatLiesThereStays();
        end();
    }

    // ---- numbers

    private static void numberedAsTheyEnd() {
        sentence("2", "numbered 0, 1, .. as they end");
        Store x = new Store();
        due(x.count(7), 0);
        x.putRange(0, 8, 1);
        x.flushAll();
        due(x.file(0, 0, 0), 0);
        x.putRange(9, 16, 1);
        x.flushAll();
        due(x.file(0, 1, 0), 1);
        x.merge(0, 0);
        x.work(8);
        due(x.count(7), 2);
        x.work(1);
        due(x.count(7), 3);
        x.work(7);
        due(x.count(7), 3);
        x.work(1);
        due(x.count(7), 5);
        x.install();
        for (int i = 0; i < 3; i++) {
            due(x.file(1, i, 0), 2 + i);
        }
    }

    private static void stoppedGiveNumbersBack() {
        sentence("2", "those of a JOB that is not INSTALLED give their numbers back as it goes");
        Store x = new Store();
        x.putRange(0, 19, 1);
        x.flushAll();
        x.merge(0, 0);
        x.work(18);
        due(x.count(7), 3);
        due(x.stop(), 2);
        due(x.count(7), 1);
        x.mergeAll(0, 0);
        due(x.file(1, 0, 0), 1);
        due(x.file(1, 2, 0), 3);
    }

    private static void failedGiveNumbersBack() {
        sentence("2", "those of a JOB that is not INSTALLED give their numbers back as it goes");
        Store x = new Store();
        States.crowdedMerge(x);
        due(x.count(7), 12);
        due(x.work(500), FULL);
        due(x.count(7), 9);
        x.put(1, 1);
        x.flushAll();
        due(x.file(0, 9, 0), 9);
    }

    private static void crashedGiveNumbersBack() {
        sentence("2", "those of a JOB that is not INSTALLED give their numbers back as it goes");
        Store x = new Store();
        States.mergeDone(x);
        due(x.count(7), 7);
        due(x.crash(2), 3);
        due(x.count(7), 4);
        x.flushAll();
        due(x.file(0, 2, 0), 4);
    }

    // ---- levels

    private static void laterFilesOfLevel0() {
        sentence("2", "those of LEVEL 0 have come from THE TABLE, the later one has the greater NUMBERS");
        Store x = new Store();
        x.putAll(1, 900, 901);
        x.flushAll();
        x.putAll(1, 50, 900);
        x.flushAll();
        x.put(0, 1);
        x.flushAll();
        dueEntries(x, 0, 0, 900, 1, 901, 2);
        dueEntries(x, 0, 1, 50, 3, 900, 4);
        dueEntries(x, 0, 2, 0, 5);
    }

    private static void levelsStandByKeys() {
        sentence("2", "those of a LEVEL 1, 2, 3 have no KEY in common, and stand by KEYS");
        for (int level = 1; level <= 3; level++) {
            Store x = new Store();
            x.sink(level, 500);
            x.sink(level, 100);
            x.sink(level, 999);
            x.sink(level, 300);
            x.sink(level, 0);
            due(x.files(level), 5);
            int[] keysAndNumbers = {0, 5, 100, 2, 300, 4, 500, 1, 999, 3};
            for (int i = 0; i < 5; i++) {
                dueEntries(x, level, i, keysAndNumbers[2 * i], keysAndNumbers[2 * i + 1]);
            }
            x.sink(level, 300);
            due(x.files(level), 5);
            dueEntries(x, level, 2, 300, 6);
        }
    }

    private static void level0IsHigh() {
        sentence("2", "A LEVEL is HIGH, if it has more FILES than 3 (LEVEL 0)");
        Store x = new Store();
        for (int f = 0; f < 4; f++) {
            due(x.high(), NONE);
            x.put(f, f);
            x.flushAll();
        }
        due(x.files(0), 4);
        due(x.high(), 0);
    }

    private static void dueHighAbove(int level, int most) {
        Store x = new Store();
        for (int f = 0; f <= most; f++) {
            due(x.high(), NONE);
            x.sink(level, 10 * f);
        }
        due(x.files(level), most + 1);
        due(x.high(), level);
    }

    private static void level1IsHigh() {
        sentence("2", "3 (1)");
        dueHighAbove(1, 3);
    }

    private static void level2IsHigh() {
        sentence("2", "6 (2)");
        dueHighAbove(2, 6);
    }

    private static void level3NeverIs() {
        sentence("2", "LEVEL 3 never is");
        Store x = new Store();
        for (int f = 0; f < 12; f++) {
            x.sink(3, 10 * f);
        }
        due(x.files(3), 12);
        due(x.high(), NONE);
    }

    // ---- bytes

    private static void howManyEntries() {
        sentence("2", "Bytes of a FILE: how many ENTRIES (one byte)");
        Store x = new Store();
        x.put(0, 0);
        x.flushAll();
        dueBytes(x, 0, 1, 0, 2, 0, 3, 0);
        due(x.file(0, 0, 5), 5);
        x.dropRange(1, 24);
        x.flushAll();
        due(x.file(0, 1, 4), 5);
        due(x.byteAt(5), 24);
        due(x.file(0, 1, 5), 2 + 24 * 2);
    }

    private static void keyLessTheOneAhead() {
        sentence("2", "its KEY less that of the ENTRY ahead");
        Store x = new Store();
        x.putAll(0, 0, 127);
        x.hold(0);
        x.putAll(0, 127, 255, 999);
        x.flushAll();
        // 127 - 127 = 0; 255 - 127 = 128; 999 - 255 = 744 = 104 + 128 * 5.
        dueBytes(x, 0, 5, 0, 2, 0, 127, 6, 0, 0, 4, 0, 128, 1, 8, 0, 232, 5, 10, 0, 528 % 251, 0);
    }

    private static void firstKey() {
        sentence("2", "the first: its KEY");
        Store x = new Store();
        x.put(999, 0);
        x.flushAll();
        x.put(1, 0);
        x.flushAll();
        // 999 = 103 + 128 * 7; the second file begins anew.
        dueBytes(x, 0, 1, 231, 7, 2, 0, 241, 1, 1, 4, 0, 6);
    }

    private static void twiceTheNumber() {
        sentence("2", "twice its NUMBER");
        Store x = new Store();
        x.writeUpTo(62);
        x.putAll(0, 1, 2);
        x.flushAll();
        dueBytes(x, x.file(0, 3, 4), 2, 1, 126, 0, 1, 128, 1, 0, 259 % 251);
    }

    private static void oneMoreForAGrave() {
        sentence("2", "and 1 more, if it is a GRAVE, else its VALUE");
        Store x = new Store();
        x.drop(7);
        x.flushAll();
        dueBytes(x, 0, 1, 7, 3, 11, 0);
        x = new Store();
        x.writeUpTo(62);
        x.dropRange(1, 2);
        x.flushAll();
        dueBytes(x, x.file(0, 3, 4), 2, 1, 127, 1, 129, 1, 261 % 251);
    }

    private static final int[] FOLDED = {0, -1, 1, 63, -64, 64, -65, 8191, -8192, 8192, -8193, 100000, -100000};
    private static final int[][] FOLDED_BYTES = {{0}, {1}, {2}, {126}, {127}, {128, 1}, {129, 1}, {254, 127}, {255, 127},
        {128, 128, 1}, {129, 128, 1}, {192, 154, 12}, {191, 154, 12}};

    private static void foldedValues() {
        sentence("2", "folded (2 v of 0 or above, -2 v - 1 of below)");
        Store x = new Store();
        for (int k = 0; k < FOLDED.length; k++) {
            x.put(k, FOLDED[k]);
        }
        x.flushAll();
        int at = 1;
        for (int k = 0; k < FOLDED.length; k++) {
            dueBytes(x, at, k == 0 ? 0 : 1, 2 * (k + 1));
            dueBytes(x, at + 2, FOLDED_BYTES[k]);
            at += 2 + FOLDED_BYTES[k].length;
            due(x.entry(0, 0, k, 2), FOLDED[k]);
        }
        due(x.file(0, 0, 5), at + 1);
        due(x.check(), 0);
    }

    private static void sevenBitsAByte() {
        sentence("2", "seven bits a byte, the lowest first, 128 more in each byte but the last one");
        // The least and the greatest values of one, two and three bytes.
        int[] values = {-64, 64, -8192, 8192, 100000};
        int[] lengths = {5, 6, 6, 7, 7};
        for (int k = 0; k < values.length; k++) {
            Store x = new Store();
            x.put(0, values[k]);
            x.flushAll();
            due(x.file(0, 0, 5), lengths[k]);
            due(x.byteAt(3) > 127 ? 1 : 0, lengths[k] > 5 ? 1 : 0);
            due(x.byteAt(lengths[k] - 2) > 127 ? 1 : 0, 0);
        }
        int[] keys = {127, 128, 999};
        for (int key : keys) {
            Store x = new Store();
            x.drop(key);
            x.flushAll();
            due(x.file(0, 0, 5), key == 127 ? 4 : 5);
            due(x.byteAt(1), key == 127 ? 127 : 128 + key % 128);
        }
    }

    private static void longestFile() {
        sentence("2", "each of these as a SHORT NUMBER");
        Store x = new Store();
        x.setLatestNumber(59976);
        x.putRange(0, 16, 100000);
        // The keys are 128 apart here, so that they take two bytes each.
        for (int key = 144; key <= 912; key += 128) {
            due(x.put(key, -100000) > 0 ? 1 : 0, 1);
        }
        due(x.count(2), 60000);
        due(x.flush(), 24);
        x.finishJob();
        due(x.file(0, 0, 5), 1 + 24 * (1 + 3 + 3) + 7 + 1);
        due(x.byteAt(175), 12);
        due(x.check(), 0);
        due(x.get(912), -100000);
    }

    private static void sumOfTheBytes() {
        sentence("2", "the sum of all these bytes modulo 251");
        int[] keys = {119, 120, 121, 122, 123};
        int[] sums = {249, 250, 0, 1, 2};
        for (int k = 0; k < keys.length; k++) {
            Store x = new Store();
            x.put(keys[k], -64);
            x.flushAll();
            // 1 + key + 2 + 127
            dueBytes(x, 0, 1, keys[k], 2, 127, sums[k], 0);
            due(x.check(), 0);
        }
        Store x = new Store();
        x.putAll(-64, 120, 240, 241);
        x.flushAll();
        // 3 + 120 + 2 + 127 + 120 + 4 + 127 + 1 + 6 + 127 = 637, more than twice 251
        due(x.byteAt(10), 637 - 502);
    }

    // ---- the field

    private static void fieldAtFirst() {
        sentence("2", "THE FIELD has 1500 bytes, 0 at first");
        Store x = new Store();
        for (int i = 0; i < 1500; i++) {
            x = x.callsLeft() == 0 ? new Store() : x;
            due(x.byteAt(i), 0);
        }
        due(new Store().byteAt(1500), BAD);
    }

    /** A file of 7 bytes gone from the front, and one of 7 bytes behind it. */
    private static Store roomOf7() {
        Store x = new Store();
        x.drop(1);
        x.put(2, 0);
        x.sinkWritten(1, 1);
        due(x.file(1, 0, 4), 7);
        due(x.file(1, 0, 5), 7);
        return x;
    }

    private static void firstRoomLongEnough() {
        sentence("2", "A FILE takes the first room that is long enough, between those of FILES in force");
        Store x = roomOf7();
        x.drop(500);
        x.put(501, 0);
        x.flushAll();
        due(x.file(0, 0, 5), 8);
        due(x.file(0, 0, 4), 14);
        x.drop(3);
        x.put(4, 0);
        x.flushAll();
        due(x.file(0, 1, 5), 7);
        due(x.file(0, 1, 4), 0);
        x.drop(1);
        x.flushAll();
        due(x.file(0, 2, 4), 22);
        x = roomOf7();
        x.drop(3);
        x.flushAll();
        due(x.file(0, 0, 5), 4);
        due(x.file(0, 0, 4), 0);
        x.drop(3);
        x.flushAll();
        due(x.file(0, 1, 4), 14);
        due(x.check(), 0);
    }

    private static void firstRoomNotTheTightest() {
        sentence("2", "the first room that is long enough");
        Store x = new Store();
        x.sink(1, 100, 101);
        due(x.file(1, 0, 4), 10);
        x.drop(1);
        x.put(2, 0);
        x.flushAll();
        due(x.file(0, 0, 4), 0);
        x.drop(1);
        x.put(2, 64);
        x.flushAll();
        due(x.file(0, 1, 4), 20);
        due(x.file(0, 1, 5), 8);
        x.mergeAll(0, 0);
        due(x.file(1, 0, 4), 28);
        // 10 bytes are free at 0, and 8 at 20.
        x.drop(1);
        x.put(2, 64);
        x.flushAll();
        due(x.file(0, 0, 5), 8);
        due(x.file(0, 0, 4), 0);
        due(x.check(), 0);
    }

    private static void roomOfSourcesIsTaken() {
        sentence("2", "between those of FILES in force");
        Store x = new Store();
        x.drop(1);
        x.flushAll();
        x.merge(0, 0);
        x.work(500);
        dueBytes(x, 0, 1, 1, 3, 5, 1, 1, 3, 5, 0);
        x.install();
        due(x.file(1, 0, 4), 4);
        x.merge(1, 0);
        x.work(500);
        x.install();
        due(x.file(2, 0, 4), 0);
        due(x.check(), 0);
    }

    private static void roomOfFilesBeingMade() {
        sentence("2", "and of FILES that are being made");
        Store x = new Store();
        x.dropRange(0, 16);
        x.flushAll();
        x.mergeAll(0, 0);
        due(x.file(1, 0, 4), 36);
        due(x.file(1, 1, 4), 36 + 18);
        due(x.file(1, 2, 4), 36 + 36);
        due(x.check(), 0);
    }

    private static void roomWhenItIsReady() {
        sentence("2", "when it is ready");
        Store x = new Store();
        x.dropRange(1, 9);
        x.flush();
        x.work(8);
        due(x.byteAt(0), 0);
        x.work(1);
        due(x.byteAt(0), 9);
        x.install();
        x.merge(0, 0);
        x.work(8);
        due(x.byteAt(20), 0);
        x.work(1);
        due(x.byteAt(20), 8);
        due(x.byteAt(38), 1);
    }

    private static void roomToTheLastByte() {
        sentence("2", "the first room that is long enough");
        Store x = new Store();
        States.nearlyFullField(x);
        due(x.count(4), 1397);
        x.putRange(0, 15, 100000);
        x.put(16, 8191);
        due(x.flush(), 17);
        due(x.work(500), 0);
        x.install();
        due(x.file(0, 10, 4), 1397);
        due(x.file(0, 10, 5), 103);
        due(x.count(4), 1500);
        due(x.byteAt(1397), 17);
        due(x.byteAt(1498), 127);
        due(x.check(), 0);
        x.drop(0);
        x.flush();
        due(x.work(1), FULL);
        due(x.check(), 0);
    }

    private static void noRoomByOneByte() {
        sentence("2", "the first room that is long enough");
        Store x = new Store();
        States.nearlyFullField(x);
        x.putRange(0, 16, 100000);
        due(x.flush(), 17);
        due(x.work(500), FULL);
        due(x.count(4), 1397);
        due(x.byteAt(1397), 0);
        due(x.byteAt(1499), 0);
        due(x.count(0), 17);
    }

    private static void gapsAreNotAddedUp() {
        sentence("2", "the first room that is long enough");
        Store x = roomOf7();
        x.sink(1, 100, 101);
        due(x.file(1, 1, 4), 24);
        due(x.file(1, 1, 5), 10);
        // 7 bytes at 0 and 10 at 14 are free, 17 together.
        x.dropRange(500, 504);
        x.flushAll();
        due(x.file(0, 0, 5), 13);
        due(x.file(0, 0, 4), 34);
        x.dropRange(500, 502);
        x.flushAll();
        due(x.file(0, 1, 5), 9);
        due(x.file(0, 1, 4), 14);
        due(x.check(), 0);
    }

    private static void whatLiesThereStays() {
        sentence("2", "what lies there stays, till another one takes it");
        Store x = new Store();
        x.putRange(1, 3, 9);
        x.flush();
        x.work(500);
        x.stop();
        dueBytes(x, 0, 3, 1, 2, 18, 1, 4, 18, 1, 6, 18, 72, 0);
        x.crash(0);
        x.drop(4);
        x.flush();
        x.work(500);
        x.crash(1);
        dueBytes(x, 0, 1, 4, 3, 8, 1, 4, 18, 1, 6, 18, 72, 0);
        x.sinkWritten(1, 4);
        dueBytes(x, 0, 1, 4, 3, 8, 1, 4, 3, 8, 6, 18, 72, 0);
        due(x.file(1, 0, 4), 4);
    }
}
