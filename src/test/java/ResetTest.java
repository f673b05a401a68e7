/** Promise 14: reset. */
public final class ResetTest {
    public static void main(String[] args) {
        JudgedCodes x = new JudgedCodes();
        x.reset();
        Check.due("reset of a new object", x.code(0, 2), 0);
        tellMaker(x);
        x.code(0, 0);
        x.reset();
        closed(x);
        runMaker(x);
        x.reset();
        closed(x);
        nothingIsLeft(x);
        runMaker(x);
        x.reset();
        newCodes(x);
        amidCallsAndWaiting();
        Check.end();
    }

    /** It fills fields, a global, and a monitor, and waits on nothing. */
    private static void tellMaker(JudgedCodes x) {
        x.local(2);
        int[] pairs = {Check.LOAD, 0, Check.NONE, 3, Check.JUMP, 0, Check.NEW, 3, Check.STORE, 0, Check.LOAD, 0,
                Check.PUSH, 8, Check.PUT, 0, Check.LOAD, 0, Check.LOAD, 0, Check.REF_PUT, 7, Check.LOAD, 0,
                Check.SET_GLOBAL, 0, Check.LOAD, 0, Check.SET_GLOBAL, 3, Check.LOAD, 0, Check.ENTER, 0,
                Check.LOAD, 0, Check.RETURN, 0};
        for (int i = 0; i < pairs.length; i += 2) {
            x.add(pairs[i], pairs[i + 1]);
        }
    }

    private static void closed(JudgedCodes x) {
        Check.due("no code is open to locals", x.local(1), -14);
        Check.due("no code is open to instructions", x.add(0, 0), -14);
        Check.due("no code is open to rows", x.row(0, 1, 0, 0), -14);
        Check.due("codes stay", x.judge(0), 1);
        Check.due("the empty one too", x.judge(1), 0);
    }

    private static void runMaker(JudgedCodes x) {
        Check.due("a thread from 0 on", x.thread(0), 0);
        Check.due("its steps at first", x.told(0, 0), 0);
        Check.due("its outcome at first", x.told(0, 2), 0);
        Check.due("its local at first", x.value(0, -1), 0);
        Check.due("run to the last but one", x.run(0, 16), 0);
        Check.due("an object from 1 on", x.value(0, -1), 1);
        Check.due("its field", x.object(1, 10), 8);
        Check.due("its ref field", x.object(1, 17), 1);
        Check.due("held", x.object(1, 1), 0);
        Check.due("once", x.object(1, 2), 1);
        Check.due("a global", x.global(0), 1);
        Check.due("another one", x.global(3), 1);
        Check.due("a second object", x.object(2, 0), -14);
    }

    private static void nothingIsLeft(JudgedCodes x) {
        Check.due("no thread to tell of", x.told(0, 0), -14);
        Check.due("no thread to run", x.run(0, 1), -14);
        Check.due("no value", x.value(0, -1), 0);
        Check.due("no object", x.object(1, 0), -14);
        for (int i = 0; i < 4; i++) {
            Check.due("global " + i, x.global(i), 0);
        }
        Check.due("none is stuck", x.stuck(), 0);
        madeAnew(x);
    }

    /** An object made anew has nothing of the one that had its number. */
    private static void madeAnew(JudgedCodes x) {
        int c = Check.code(x, 0, 2, "", Check.NEW, 7, Check.RETURN, 0);
        x.thread(c);
        Check.due("its end", x.run(0, 9), 1);
        Check.due("its object", x.told(0, 2), 1);
        Check.due("its kind", x.object(1, 0), 7);
        for (int i = 10; i <= 17; i++) {
            Check.due("its field " + i, x.object(1, i), 0);
        }
        Check.due("its holder", x.object(1, 1), -1);
        Check.due("how often", x.object(1, 2), 0);
        x.reset();
    }

    private static void newCodes(JudgedCodes x) {
        Check.due("the next code", x.code(0, 0), 3);
        Check.due("it is open", x.add(Check.RETURN, 0), 0);
        Check.due("a thread of it", x.thread(3), 0);
    }

    /** Threads that begin anew know nothing of the frames and the waiting of those before them. */
    private static void amidCallsAndWaiting() {
        JudgedCodes x = new JudgedCodes();
        Check.code(x, 0, 0, "", Check.CALL, 1, Check.RETURN, 0);
        Check.code(x, 0, 0, "", Check.GLOBAL, 0, Check.NONE, 5, Check.GLOBAL, 0, Check.ENTER, 0, Check.JUMP, 0,
                Check.NEW, 0, Check.SET_GLOBAL, 0, Check.JUMP, 0);
        x.thread(0);
        x.thread(0);
        Check.due("thread 0 enters", x.run(0, 12), 0);
        Check.due("thread 1 waits", x.run(1, 12), 3);
        Check.due("for object 1", x.told(1, 6), 1);
        x.reset();
        x.thread(0);
        Check.due("thread 1 is gone", x.told(1, 6), -14);
        x.thread(0);
        for (int t = 0; t < 2; t++) {
            int[] want = {0, 1, 0, 0, 0, 0, 0};
            for (int what = 0; what < 7; what++) {
                Check.due("anew: told(" + t + ", " + what + ")", x.told(t, what), want[what]);
            }
            Check.due("anew: run", x.run(t, 0), 0);
        }
    }
}
