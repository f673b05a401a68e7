import java.util.Random;

/** Calls of all kinds in all orders: none throws, none answers what it never may, and steps add up. */
public final class AnyCallsTest {
    private static final int OBJECTS = 3000;
    private static final int CALLS = 512;

    private final Random random;
    private final JudgedCodes x = new JudgedCodes();
    private final JudgedCodes twin = new JudgedCodes();
    private int ran = 0;

    private AnyCallsTest(long seed) {
        random = new Random(seed);
    }

    public static void main(String[] args) {
        int ran = 0;
        for (int seed = 0; seed < OBJECTS; seed++) {
            AnyCallsTest test = new AnyCallsTest(seed);
            for (int i = 0; i < CALLS; i++) {
                test.call();
            }
            ran += test.ran;
        }
        Check.due("some threads did run", ran > OBJECTS ? 1 : 0, 1);
        Check.end();
    }

    private int near(int most) {
        return random.nextInt(40) == 0 ? random.nextInt() : random.nextInt(most + 3) - 1;
    }

    private void call() {
        switch (random.nextInt(24)) {
            case 0 -> tellGoodCode();
            case 1 -> same("code", near(2), near(2), 0, 0);
            case 2, 3 -> same("local", near(2), 0, 0, 0);
            case 4, 5, 6 -> same("add", near(26), near(9), 0, 0);
            case 7 -> same("row", near(8), near(8), near(8), near(10));
            case 8 -> same("judge", near(8), 0, 0, 0);
            case 9, 10, 11 -> same("thread", near(8), 0, 0, 0);
            case 23 -> {
                if (random.nextInt(12) == 0) {
                    x.reset();
                    twin.reset();
                }
            }
            default -> {
                runBoth();
                lookAtBoth();
            }
        }
    }

    /** A code that is likely good: each piece of it leaves the row empty. */
    private void tellGoodCode() {
        same("code", 0, 0, 0, 0);
        same("local", 1, 0, 0, 0);
        same("local", 2, 0, 0, 0);
        int at = 0;
        for (int i = 0; i < 5; i++) {
            int[] piece = piece();
            for (int k = 0; k < piece.length; k += 2) {
                same("add", piece[k], piece[k + 1], 0, 0);
            }
            at += piece.length / 2;
        }
        if (random.nextBoolean()) {
            same("add", Check.RETURN, 0, 0, 0);
            same("row", 0, at, at + 1, 10);
            same("add", Check.SET_GLOBAL, random.nextInt(4), 0, 0);
        }
        same("add", random.nextBoolean() ? Check.JUMP : Check.RETURN, 0, 0, 0);
    }

    private int[] piece() {
        int g = random.nextInt(4);
        return switch (random.nextInt(9)) {
            case 0 -> new int[] {Check.NEW, random.nextInt(10), Check.SET_GLOBAL, g};
            case 1 -> new int[] {Check.GLOBAL, g, Check.ENTER, 0};
            case 2 -> new int[] {Check.GLOBAL, g, Check.LEAVE, 0};
            case 3 -> new int[] {Check.GLOBAL, g, Check.LOAD, 0, Check.PUT, g};
            case 4 -> new int[] {Check.GLOBAL, g, Check.GET, g, Check.LOAD, 0, Check.DIV, 0, Check.STORE, 0};
            case 5 -> new int[] {Check.GLOBAL, g, Check.GLOBAL, g / 2, Check.REF_PUT, 4 + g};
            case 6 -> new int[] {Check.CALL, random.nextInt(4)};
            case 7 -> new int[] {Check.LOAD, 0, Check.PUSH, random.nextInt(), Check.MUL, 0, Check.STORE, 0};
            default -> new int[] {Check.GLOBAL, g, Check.REF_GET, 4 + g, Check.STORE, 1};
        };
    }

    private void same(String name, int a, int b, int c, int d) {
        int got = answer(x, name, a, b, c, d);
        int again = answer(twin, name, a, b, c, d);
        if (got != again || got < 0 && got != -1 && got != -12 && got != -14) {
            Check.due(name + "(" + a + ", " + b + ", " + c + ", " + d + ") of a twin", again, got);
        }
    }

    private static int answer(JudgedCodes on, String name, int a, int b, int c, int d) {
        return switch (name) {
            case "code" -> on.code(a, b);
            case "local" -> on.local(a);
            case "add" -> on.add(a, b);
            case "row" -> on.row(a, b, c, d);
            case "judge" -> on.judge(a);
            default -> on.thread(a);
        };
    }

    /** The twin does its steps one by one. */
    private void runBoth() {
        int t = near(3);
        int n = random.nextInt(50) == 0 ? near(10000) : random.nextInt(40);
        int got = x.run(t, n);
        int one = n >= 0 && n <= 10000 ? twin.run(t, 0) : -14;
        for (int i = 0; i < n && n <= 10000; i++) {
            one = twin.run(t, 1);
            if (one != 0) {
                break;
            }
        }
        ran += got >= 0 ? 1 : 0;
        if (got != one) {
            Check.due("run(" + t + ", " + n + ") one by one", one, got);
        }
    }

    private void lookAtBoth() {
        int t = near(7);
        for (int what = -1; what <= 7; what++) {
            alike("told", x.told(t, what), twin.told(t, what));
            alike("value", x.value(t, what), twin.value(t, what));
            alike("value", x.value(t, -what), twin.value(t, -what));
        }
        int o = near(20);
        for (int what = -1; what <= 18; what++) {
            alike("object", x.object(o, what), twin.object(o, what));
        }
        int i = near(3);
        alike("global", x.global(i), twin.global(i));
        alike("stuck", x.stuck(), twin.stuck());
        bounded(x.told(t, 1), 30);
        bounded(x.told(t, 5), 12);
        bounded(x.stuck(), 8);
    }

    private static void alike(String what, int got, int again) {
        if (got != again) {
            Check.due(what + " of a twin", again, got);
        }
    }

    private static void bounded(int got, int most) {
        if (got > most) {
            Check.due("at most", got, most);
        }
    }
}
