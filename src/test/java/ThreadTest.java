/** Promise 7: thread. */
public final class ThreadTest {
    public static void main(String[] args) {
        numbers();
        refused();
        ledToByCalls();
        ledToByTheLastOfManyCalls();
        refusedBeforeFull();
        Check.end();
    }

    private static void numbers() {
        JudgedCodes x = new JudgedCodes();
        Check.code(x, 0, 0, "1", Check.JUMP, 0);
        for (int i = 0; i < 8; i++) {
            Check.due("thread " + i, x.thread(0), i);
            Check.due("its frames", x.told(i, 1), 1);
            Check.due("its code", x.told(i, 3), 0);
            Check.due("its instruction", x.told(i, 4), 0);
        }
        Check.due("a ninth thread", x.thread(0), -12);
        x.run(0, 3);
        Check.due("one has run, the others have not", x.told(0, 0) * 10 + x.told(1, 0), 30);
    }

    private static void refused() {
        JudgedCodes x = new JudgedCodes();
        Check.code(x, 1, 0, "1", Check.RETURN, 0);
        Check.code(x, 0, 0, "", Check.PUSH, 0);
        Check.due("thread(-1)", x.thread(-1), -14);
        Check.due("thread(2)", x.thread(2), -14);
        Check.due("thread of a code with parameters", x.thread(0), -1);
        Check.due("thread of a code that is not good", x.thread(1), -1);
        Check.due("told of no thread", x.told(0, 0), -14);
        x.add(Check.POP, 0);
        x.add(Check.RETURN, 0);
        Check.due("thread when it has become good", x.thread(1), 0);
    }

    private static void ledToByCalls() {
        JudgedCodes x = new JudgedCodes();
        Check.code(x, 0, 0, "", Check.CALL, 1, Check.RETURN, 0);
        Check.due("a call of a code that is not told", x.thread(0), -1);
        Check.code(x, 0, 0, "", Check.CALL, 2, Check.CALL, 0, Check.RETURN, 0);
        Check.code(x, 0, 0, "", Check.CALL, 1, Check.CALL, 3, Check.RETURN, 0);
        Check.code(x, 0, 0, "", Check.POP, 0, Check.RETURN, 0);
        Check.due("calls lead to a code that is not good", x.thread(0), -1);
        Check.due("though it is good itself", x.judge(0), 1);
        Check.code(x, 0, 0, "", Check.RETURN, 0);
        Check.due("a thread of a code that calls none", x.thread(4), 0);
        JudgedCodes y = new JudgedCodes();
        for (int i = 0; i < 40; i++) {
            Check.code(y, 0, 0, "", Check.CALL, Math.min(i + 1, 39), Check.RETURN, 0);
        }
        Check.due("a chain of forty good codes", y.thread(0), 0);
        JudgedCodes z = new JudgedCodes();
        for (int i = 0; i < 39; i++) {
            Check.code(z, 0, 0, "", Check.CALL, i + 1, Check.RETURN, 0);
        }
        Check.code(z, 0, 0, "", Check.CALL, 0);
        Check.due("a chain of forty, the last not good", z.thread(0), -1);
    }

    private static void ledToByTheLastOfManyCalls() {
        JudgedCodes x = new JudgedCodes();
        x.code(0, 0);
        for (int i = 0; i < 50; i++) {
            x.add(Check.CALL, i % 2);
        }
        x.add(Check.CALL, 2);
        x.add(Check.RETURN, 0);
        Check.code(x, 0, 0, "", Check.CALL, 0, Check.RETURN, 0);
        Check.code(x, 0, 0, "", Check.PUSH, 0, Check.RETURN, 0);
        Check.due("the last call of many leads to a code that is not good", x.thread(0), -1);
    }

    private static void refusedBeforeFull() {
        JudgedCodes x = new JudgedCodes();
        Check.code(x, 1, 0, "1", Check.RETURN, 0);
        Check.code(x, 0, 0, "", Check.RETURN, 0);
        for (int i = 0; i < 8; i++) {
            x.thread(1);
            x.run(i, 1);
        }
        Check.due("no code, with eight threads", x.thread(2), -14);
        Check.due("parameters, with eight threads", x.thread(0), -1);
        Check.due("a ninth, though all have ended", x.thread(1), -12);
    }
}
