/**
 * What the tests of the document's sentences share: each test names its sentence, asks for answers
 * that are due, and tries refusals, which must leave all as it was.
 */
abstract class Sentences {
    static final int UNKNOWN = -1000001, BAD = -1000002, STATE = -1000003, FULL = -1000004, NONE = -1000009;
    static final int MIN = Integer.MIN_VALUE, MAX = Integer.MAX_VALUE;
    static final int[] NO_KEYS = {-1, 1000, MIN, MAX};
    static final int[] NO_VALUES = {-100001, 100001, NONE, MIN, MAX};
    static final int[] NO_VIEWS = {-1, 3, MIN, MAX};
    static final int[] NO_LEVELS = {-1, 4, MIN, MAX};

    private static final int MOST_LINES = 100;

    private static String sentence = "no sentence";
    private static int sentences = 0;
    private static int answers = 0;
    private static int answersBefore = 0;
    private static int wrong = 0;

    /** The words of the document that the answers asked for from here on are due by. */
    static void sentence(String place, String words) {
        dueSomething();
        sentence = place + ": " + words;
        sentences++;
        answersBefore = answers;
    }

    private static void dueSomething() {
        if (sentences > 0 && answers == answersBefore) {
            tell("nothing was asked for");
        }
    }

    private static void tell(String what) {
        wrong++;
        if (wrong <= MOST_LINES) {
            System.out.println("[" + sentence + "] " + what);
        }
    }

    /** The answer of the last call. */
    static void due(int got, int want) {
        answers++;
        if (got != want) {
            tell(Store.lastCall() + " answered " + got + ", due is " + want);
        }
    }

    static void refused(Telling.Steps steps, Telling.Call call, int want) {
        Store x = new Store();
        steps.on(x);
        due(call.on(x), want);
        String name = Store.lastCall();
        if (!Telling.behind(steps, call).equals(Telling.behind(steps))) {
            tell(name + " is refused, but changes something");
        }
    }

    static void refusedInEveryState(Telling.Call call, int want) {
        for (Telling.Steps steps : States.ALL) {
            refused(steps, call, want);
        }
    }

    static void dueEntries(Store x, int level, int i, int... keysAndNumbers) {
        due(x.file(level, i, 1), keysAndNumbers.length / 2);
        for (int k = 0; k < keysAndNumbers.length; k++) {
            due(x.entry(level, i, k / 2, k % 2), keysAndNumbers[k]);
        }
    }

    static void dueBytes(Store x, int at, int... bytes) {
        for (int k = 0; k < bytes.length; k++) {
            due(x.byteAt(at + k), bytes[k]);
        }
    }

    static void end() {
        dueSomething();
        System.out.println(sentences + " sentences, " + answers + " answers asked for, " + wrong + " not as due");
        if (wrong != 0) {
            System.exit(1);
        }
    }
}
