/** Promise 7: a test for each sentence that names an edge. */
public final class EdgesOfThreadsTest {
    public static void main(String[] args) {
        noSuchCode();
        withParameters();
        notGood();
        ledToByOneCall();
        ledToByAChain();
        ledToByACallNeverDone();
        ledToInARing();
        notLedTo();
        goodWithParametersWhenCalled();
        eightThreads();
        endedThreadsCount();
        refusalsInOrder();
        refusedThreadsAreNone();
        beginsAtTheBeginning();
        Check.end();
    }

    private static void noSuchCode() {
        Check.sentence("-14 no such code");
        JudgedCodes x = new JudgedCodes();
        Check.due("thread(0) of a new object", x.thread(0), -14);
        Check.code(x, 0, 0, "", Check.RETURN, 0);
        int[] none = {-1, 1, 39, 40, Check.MIN, Check.MAX};
        for (int c : none) {
            Check.due("thread(" + c + ")", x.thread(c), -14);
        }
        for (int c = 1; c < 40; c++) {
            Check.code(x, 0, 0, "", Check.RETURN, 0);
        }
        Check.due("thread(40) with 40 codes", x.thread(40), -14);
        Check.due("thread(39) with 40 codes", x.thread(39), 0);
        Check.due("its code", x.told(0, 3), 39);
    }

    private static void withParameters() {
        Check.sentence("-1 it has parameters");
        for (int parameters = 0; parameters <= 8; parameters++) {
            JudgedCodes x = new JudgedCodes();
            Check.code(x, parameters, 0, "11111111", Check.RETURN, 0);
            Check.due("it is good", x.judge(0), 1);
            Check.due("thread with " + parameters + " parameters", x.thread(0), parameters == 0 ? 0 : -1);
        }
    }

    private static void notGood() {
        Check.sentence("-1 it has parameters, or it, or one that calls lead to, is not good");
        JudgedCodes x = new JudgedCodes();
        x.code(0, 0);
        Check.due("thread of an empty code", x.thread(0), -1);
        x.add(Check.PUSH, 0);
        Check.due("thread of one that does not end", x.thread(0), -1);
        x.add(Check.POP, 0);
        x.add(Check.RETURN, 0);
        Check.due("thread when it has become good", x.thread(0), 0);
    }

    private static void ledToByOneCall() {
        Check.sentence("or one that calls lead to, is not good");
        JudgedCodes x = new JudgedCodes();
        Check.code(x, 0, 0, "", Check.CALL, 1, Check.RETURN, 0);
        Check.due("a call of one that is not told", x.thread(0), -1);
        x.code(0, 0);
        Check.due("a call of an empty one, which is good itself", x.judge(0), 1);
        Check.due("a thread of it", x.thread(0), -1);
        x.add(Check.RETURN, 0);
        Check.due("a call of a good one", x.thread(0), 0);
    }

    /** Forty codes, each calling the next one; the last is good or not. */
    private static void ledToByAChain() {
        Check.sentence("all codes that a thread can come to by calls must be good");
        for (int last = 0; last <= 1; last++) {
            JudgedCodes x = new JudgedCodes();
            for (int c = 0; c < 39; c++) {
                Check.code(x, 0, 0, "", Check.CALL, c + 1, Check.RETURN, 0);
            }
            Check.code(x, 0, 0, "", last == 1 ? Check.RETURN : Check.POP, 0);
            Check.due("thread(0) of a chain, the last good: " + last, x.thread(0), last - 1);
        }
    }

    private static void ledToByACallNeverDone() {
        Check.sentence("all codes that a thread can come to by calls must be good");
        for (int calls = 0; calls <= 1; calls++) {
            JudgedCodes x = new JudgedCodes();
            Check.code(x, 0, 0, "", Check.PUSH, 1, Check.ZERO, 3, Check.RETURN, 0, Check.CALL, calls, Check.RETURN, 0);
            x.code(0, 0);
            Check.due("a call of code " + calls + " that is jumped over", x.thread(0), -calls);
        }
    }

    private static void ledToInARing() {
        Check.sentence("all codes that a thread can come to by calls must be good");
        JudgedCodes x = new JudgedCodes();
        Check.code(x, 0, 0, "", Check.CALL, 0, Check.CALL, 1, Check.RETURN, 0);
        Check.code(x, 0, 0, "", Check.CALL, 2, Check.CALL, 0, Check.RETURN, 0);
        Check.code(x, 0, 0, "", Check.CALL, 1, Check.CALL, 3, Check.RETURN, 0);
        Check.code(x, 0, 0, "", Check.CALL, 2);
        for (int c = 0; c < 4; c++) {
            Check.due("thread(" + c + "), the ring has one that is not good", x.thread(c), -1);
        }
        x.add(Check.RETURN, 0);
        for (int c = 0; c < 4; c++) {
            Check.due("thread(" + c + "), all of the ring are good", x.thread(c), c);
        }
    }

    private static void notLedTo() {
        Check.sentence("or one that calls lead to, is not good");
        JudgedCodes x = new JudgedCodes();
        Check.code(x, 0, 0, "", Check.POP, 0, Check.CALL, 1);
        Check.code(x, 0, 0, "", Check.RETURN, 0);
        Check.code(x, 0, 0, "", Check.RETURN, 0, Check.CALL, 1);
        Check.due("thread(1), no call of which leads to the others", x.thread(1), 0);
    }

    private static void goodWithParametersWhenCalled() {
        Check.sentence("-1 it has parameters");
        JudgedCodes x = new JudgedCodes();
        Check.code(x, 0, 0, "", Check.PUSH, 0, Check.CALL, 1, Check.RETURN, 0);
        Check.code(x, 1, 0, "1", Check.RETURN, 0);
        Check.due("a call leads to one with parameters", x.thread(0), 0);
        Check.due("which no thread begins with", x.thread(1), -1);
    }

    private static void eightThreads() {
        Check.sentence("A new thread that begins with a code without parameters: its number. ... -12 there are 8.");
        JudgedCodes x = new JudgedCodes();
        Check.code(x, 0, 0, "", Check.RETURN, 0);
        for (int life = 0; life < 2; life++) {
            for (int t = 0; t < 8; t++) {
                Check.due("thread " + t, x.thread(0), t);
            }
            Check.due("a ninth thread", x.thread(0), -12);
            Check.due("a ninth thread again", x.thread(0), -12);
            Check.due("told(7, 1)", x.told(7, 1), 1);
            Check.due("told(8, 1)", x.told(8, 1), -14);
            x.reset();
        }
    }

    private static void endedThreadsCount() {
        Check.sentence("-12 there are 8.");
        JudgedCodes x = new JudgedCodes();
        Check.code(x, 0, 0, "", Check.RETURN, 0);
        for (int t = 0; t < 8; t++) {
            Check.due("thread " + t + ", the others have ended", x.thread(0), t);
            Check.due("its end", x.run(t, 1), 1);
        }
        Check.due("a ninth, all have ended", x.thread(0), -12);
    }

    private static void refusalsInOrder() {
        Check.sentence("-14 no such code, -1 it has parameters, or it, or one that calls lead to, is not good; "
                + "-12 there are 8.");
        JudgedCodes x = new JudgedCodes();
        Check.code(x, 0, 0, "", Check.RETURN, 0);
        Check.code(x, 1, 0, "1", Check.RETURN, 0);
        Check.code(x, 0, 0, "", Check.POP, 0);
        Check.code(x, 0, 0, "", Check.CALL, 2, Check.RETURN, 0);
        for (int t = 0; t < 8; t++) {
            x.thread(0);
        }
        Check.due("no such code, with eight", x.thread(4), -14);
        for (int c = 1; c <= 3; c++) {
            Check.due("thread(" + c + "), with eight", x.thread(c), -1);
        }
        Check.due("a good one, with eight", x.thread(0), -12);
    }

    private static void refusedThreadsAreNone() {
        Check.sentence("-1 it has parameters, or it, or one that calls lead to, is not good");
        JudgedCodes x = new JudgedCodes();
        Check.code(x, 1, 0, "1", Check.RETURN, 0);
        Check.code(x, 0, 0, "", Check.POP, 0);
        for (int c = 0; c <= 2; c++) {
            Check.due("thread(" + c + ")", x.thread(c), c == 2 ? -14 : -1);
            Check.due("told(0, 1)", x.told(0, 1), -14);
            Check.due("run(0, 1)", x.run(0, 1), -14);
            Check.due("the open code is open", x.local(1), c + 1);
        }
        Check.due("there are no threads, so a code may begin", x.code(0, 0), 2);
    }

    private static void beginsAtTheBeginning() {
        Check.sentence("A new thread that begins with a code without parameters");
        JudgedCodes x = new JudgedCodes();
        Check.code(x, 0, 0, "11111111", Check.PUSH, 3, Check.STORE, 7, Check.PUSH, 4, Check.POP, 0, Check.RETURN, 0);
        x.thread(0);
        x.run(0, 3);
        Check.due("thread(0) once more", x.thread(0), 1);
        int[] want = {0, 1, 0, 0, 0, 0, 0};
        for (int what = 0; what < want.length; what++) {
            Check.due("told(1, " + what + ")", x.told(1, what), want[what]);
        }
        Check.due("no value", x.value(1, 0), 0);
        Check.due("its last local", x.value(1, -8), 0);
    }
}
