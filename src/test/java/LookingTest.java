/** Promises 9 to 12: told, object, value, global. */
public final class LookingTest {
    public static void main(String[] args) {
        toldOfThreads();
        toldOfOutcomes();
        objects();
        values();
        globals();
        Check.end();
    }

    private static void toldAll(String when, JudgedCodes x, int... want) {
        for (int what = 0; what < want.length; what++) {
            Check.due(when + ": told(0, " + what + ")", x.told(0, what), want[what]);
        }
    }

    private static void toldOfThreads() {
        JudgedCodes x = new JudgedCodes();
        Check.code(x, 1, 1, "1", Check.LOAD, 0, Check.DUP, 0, Check.ADD, 0, Check.RETURN, 0);
        Check.code(x, 0, 1, "", Check.PUSH, 1, Check.PUSH, 21, Check.CALL, 0, Check.ADD, 0, Check.RETURN, 0);
        x.thread(1);
        Check.due("told(-1, 0)", x.told(-1, 0), -14);
        Check.due("told(1, 0)", x.told(1, 0), -14);
        Check.due("told(0, -1)", x.told(0, -1), -14);
        Check.due("told(0, 7)", x.told(0, 7), -14);
        toldAll("at first", x, 0, 1, 0, 1, 0, 0, 0);
        x.run(0, 2);
        toldAll("before the call", x, 2, 1, 0, 1, 2, 2, 0);
        x.run(0, 1);
        toldAll("in the call", x, 3, 2, 0, 0, 0, 0, 0);
        x.run(0, 2);
        toldAll("with two values", x, 5, 2, 0, 0, 2, 2, 0);
        x.run(0, 2);
        toldAll("behind the call", x, 7, 1, 0, 1, 3, 2, 0);
        x.run(0, 2);
        toldAll("at the end", x, 9, 0, 43, -1, -1, 0, 0);
    }

    private static void toldOfOutcomes() {
        Check.due("an int", Check.ran(1, "", Check.PUSH, -14, Check.RETURN, 0).told(0, 2), -14);
        Check.due("a ref", Check.ran(2, "", Check.NEW, 2, Check.NEW, 3, Check.SET_GLOBAL, 0, Check.RETURN, 0)
                .told(0, 2), 1);
        Check.due("null", Check.ran(2, "", Check.NULL, 0, Check.RETURN, 0).told(0, 2), 0);
        Check.due("none", Check.ran(0, "", Check.RETURN, 0).told(0, 2), 0);
        JudgedCodes x = Check.ran(0, "", Check.NEW, 2, Check.PUSH, 5, Check.NULL, 0, Check.THROW, 0);
        toldAll("by a failure", x, 4, 0, 2, -1, -1, 0, 0);
    }

    private static void objects() {
        JudgedCodes x = Check.ran(2, "2", Check.NEW, 4, Check.STORE, 0, Check.LOAD, 0, Check.PUSH, 70, Check.PUT, 0,
                Check.LOAD, 0, Check.PUSH, 73, Check.PUT, 3, Check.LOAD, 0, Check.LOAD, 0, Check.REF_PUT, 4,
                Check.LOAD, 0, Check.NEW, 9, Check.REF_PUT, 7, Check.LOAD, 0, Check.RETURN, 0);
        int[] want = {70, 0, 0, 73, 1, 0, 0, 2};
        for (int i = 0; i < 8; i++) {
            Check.due("field " + i, x.object(1, 10 + i), want[i]);
            Check.due("field " + i + " of the second", x.object(2, 10 + i), 0);
        }
        Check.due("the kind", x.object(1, 0), 4);
        Check.due("the kind of the second", x.object(2, 0), 9);
        Check.due("no holder", x.object(1, 1), -1);
        Check.due("not held", x.object(1, 2), 0);
        int[] wrong = {-1, 3, 4, 9, 18, 100};
        for (int what : wrong) {
            Check.due("object(1, " + what + ")", x.object(1, what), -14);
        }
        Check.due("object(0, 0)", x.object(0, 0), -14);
        Check.due("object(-1, 0)", x.object(-1, 0), -14);
        Check.due("object(3, 0)", x.object(3, 0), -14);
    }

    private static void values() {
        JudgedCodes x = new JudgedCodes();
        Check.code(x, 0, 0, "112", Check.PUSH, 5, Check.STORE, 1, Check.NEW, 0, Check.STORE, 2, Check.PUSH, 10,
                Check.PUSH, 20, Check.PUSH, 30, Check.POP, 0, Check.POP, 0, Check.POP, 0, Check.RETURN, 0);
        x.thread(0);
        x.run(0, 7);
        int[] want = {30, 20, 10, 0};
        for (int k = 0; k < 4; k++) {
            Check.due("value(0, " + k + ")", x.value(0, k), want[k]);
        }
        Check.due("local 0", x.value(0, -1), 0);
        Check.due("local 1", x.value(0, -2), 5);
        Check.due("local 2", x.value(0, -3), 1);
        Check.due("local 3", x.value(0, -4), 0);
        Check.due("the least k", x.value(0, Integer.MIN_VALUE), 0);
        Check.due("the most k", x.value(0, Integer.MAX_VALUE), 0);
        Check.due("value(-1, 0)", x.value(-1, 0), 0);
        Check.due("value(1, 0)", x.value(1, 0), 0);
        x.run(0, 1);
        Check.due("behind a pop", x.value(0, 0), 20);
        Check.due("two are left", x.value(0, 2), 0);
        x.run(0, 99);
        Check.due("of an ended thread", x.value(0, 0), 0);
        Check.due("a local of an ended thread", x.value(0, -2), 0);
        JudgedCodes y = new JudgedCodes();
        Check.code(y, 0, 0, "11111111", Check.PUSH, 6, Check.STORE, 7, Check.RETURN, 0);
        y.thread(0);
        y.run(0, 2);
        Check.due("local 7", y.value(0, -8), 6);
        Check.due("local 8", y.value(0, -9), 0);
    }

    private static void globals() {
        JudgedCodes x = Check.ran(0, "", Check.NEW, 4, Check.SET_GLOBAL, 0, Check.NEW, 4, Check.SET_GLOBAL, 3,
                Check.NEW, 4, Check.SET_GLOBAL, 1, Check.NULL, 0, Check.SET_GLOBAL, 1, Check.RETURN, 0);
        int[] want = {-14, 1, 0, 0, 2, -14};
        for (int i = -1; i <= 4; i++) {
            Check.due("global(" + i + ")", x.global(i), want[i + 1]);
        }
    }
}
