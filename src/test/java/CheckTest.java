import java.lang.reflect.Field;

// No call can break a file, so the field is spoilt from outside to see that check() finds it.
public final class CheckTest {
    private static int wrong = 0;

    private static void due(String call, int got, int want) {
        if (got != want) {
            wrong++;
            System.out.println(call + " answered " + got + ", due is " + want);
        }
    }

    private static int[] bytesOf(LevelStore x) throws ReflectiveOperationException {
        Field field = LevelStore.class.getDeclaredField("field");
        field.setAccessible(true);
        Object inside = field.get(x);
        Field bytes = inside.getClass().getDeclaredField("bytes");
        bytes.setAccessible(true);
        return (int[]) bytes.get(inside);
    }

    private static void flushAll(LevelStore x) {
        x.flush();
        x.work(500);
        x.install();
    }

    public static void main(String[] args) throws ReflectiveOperationException {
        LevelStore x = new LevelStore();
        x.put(5, 100000);
        x.put(900, -3);
        flushAll(x);
        x.merge(0, 0);
        x.work(500);
        x.install();
        x.drop(5);
        x.put(700, 1);
        flushAll(x);
        int[] bytes = bytesOf(x);
        int spoilt = 0;
        for (int i = 0; i < bytes.length; i++) {
            boolean within = false;
            for (int level = 0; level < 2; level++) {
                int place = x.file(level, 0, 4);
                within |= i >= place && i < place + x.file(level, 0, 5);
            }
            bytes[i] ^= 1;
            due("check() with byte " + i + " spoilt", x.check(), within ? 1 : 0);
            bytes[i] ^= 1;
            spoilt += within ? 1 : 0;
        }
        due("bytes spoilt", spoilt, x.count(4));
        due("check()", x.check(), 0);
        bytes[x.file(0, 0, 4)] ^= 4;
        bytes[x.file(1, 0, 4)] ^= 4;
        due("check() of both", x.check(), 2);
        System.out.println(wrong == 0 ? "check() finds each spoilt file" : wrong + " answers are not as due");
        if (wrong != 0) {
            System.exit(1);
        }
    }
}
