/** Promise 8, RUNNING and THROWING: a test for each sentence that names an edge. */
public final class EdgesOfRunningTest {
    public static void main(String[] args) {
        noSuchThread();
        stepsAskedFor();
        lessStepsThanAskedFor();
        stepsOfAnEndedThread();
        wraps();
        leastByMinusOne();
        less();
        divisionByZero();
        ofNull();
        leaveOfWhatIsNotHeld();
        leaveLooksForNullFirst();
        thirtyFrames();
        callAtThirtyFrames();
        framesOfEachThread();
        depthFailureIsTaken();
        enterOften();
        enterOfAHeldMonitor();
        rowsCoverPlaces();
        rowsOfKinds();
        firstOfTwentyRows();
        theObjectAlone();
        takerThatThrows();
        thrownAtTheCall();
        thrownThroughAllFrames();
        endedHoldsNoMonitor();
        calledFiveHundredTimes();
        Check.end();
    }

    private static void noSuchThread() {
        Check.sentence("Thread t does up to n steps ... -14");
        JudgedCodes x = new JudgedCodes();
        Check.due("run(0, 0) without threads", x.run(0, 0), -14);
        Check.code(x, 0, 0, "", Check.JUMP, 0);
        x.thread(0);
        int[] none = {-1, 1, 7, 8, Check.MIN, Check.MAX};
        for (int t : none) {
            Check.due("run(" + t + ", 1)", x.run(t, 1), -14);
        }
        Check.due("no step was done", x.told(0, 0), 0);
    }

    private static void stepsAskedFor() {
        Check.sentence("Thread t does up to n steps (0 .. 10000), as long as it may: 0 it may go on");
        JudgedCodes x = new JudgedCodes();
        Check.code(x, 0, 0, "", Check.JUMP, 0);
        x.thread(0);
        int[] asked = {0, 1, 2, 9999, 10000};
        int done = 0;
        for (int n : asked) {
            Check.due("run(0, " + n + ")", x.run(0, n), 0);
            done += n;
            Check.due("steps behind it", x.told(0, 0), done);
        }
        int[] outside = {-1, 10001, Check.MIN, Check.MAX};
        for (int n : outside) {
            Check.due("run(0, " + n + ")", x.run(0, n), -14);
            Check.due("no step is done by it", x.told(0, 0), done);
        }
    }

    private static void lessStepsThanAskedFor() {
        Check.sentence("as long as it may: ... 1 it has ended, 2 it was ended by a failure");
        for (int n = 2; n <= 4; n++) {
            JudgedCodes x = new JudgedCodes();
            Check.code(x, 0, 0, "", Check.PUSH, 0, Check.POP, 0, Check.RETURN, 0);
            Check.code(x, 0, 0, "", Check.PUSH, 0, Check.NULL, 0, Check.THROW, 0);
            for (int t = 0; t <= 1; t++) {
                x.thread(t);
                Check.due("run(" + t + ", " + n + ")", x.run(t, n), n < 3 ? 0 : 1 + t);
                Check.due("its steps", x.told(t, 0), Math.min(n, 3));
            }
        }
    }

    private static void stepsOfAnEndedThread() {
        Check.sentence("1 it has ended, 2 it was ended by a failure");
        JudgedCodes x = new JudgedCodes();
        Check.code(x, 0, 0, "", Check.RETURN, 0);
        Check.code(x, 0, 0, "", Check.NULL, 0, Check.ENTER, 0, Check.RETURN, 0);
        for (int t = 0; t <= 1; t++) {
            x.thread(t);
            x.run(t, 10000);
            Check.due("run(" + t + ", 0)", x.run(t, 0), 1 + t);
            Check.due("run(" + t + ", 1)", x.run(t, 1), 1 + t);
            Check.due("run(" + t + ", 10000)", x.run(t, 10000), 1 + t);
            Check.due("run(" + t + ", 10001)", x.run(t, 10001), -14);
            Check.due("its steps", x.told(t, 0), 1 + t);
        }
    }

    private static void binary(int op, int lower, int upper, int want) {
        int got = Check.outcome(1, "", Check.PUSH, lower, Check.PUSH, upper, op, 0, Check.RETURN, 0);
        Check.due("op " + op + " of " + lower + " and " + upper, got, want);
    }

    private static void wraps() {
        Check.sentence("All wraps");
        binary(Check.ADD, Check.MAX, 1, Check.MIN);
        binary(Check.ADD, Check.MIN, -1, Check.MAX);
        binary(Check.ADD, Check.MAX, Check.MAX, -2);
        binary(Check.ADD, Check.MIN, Check.MIN, 0);
        binary(Check.SUB, Check.MIN, 1, Check.MAX);
        binary(Check.SUB, Check.MAX, -1, Check.MIN);
        binary(Check.SUB, 0, Check.MIN, Check.MIN);
        binary(Check.SUB, Check.MIN, Check.MAX, 1);
        binary(Check.MUL, Check.MAX, 2, -2);
        binary(Check.MUL, Check.MAX, Check.MAX, 1);
        binary(Check.MUL, Check.MIN, -1, Check.MIN);
        binary(Check.MUL, Check.MIN, Check.MIN, 0);
        binary(Check.MUL, 65536, 65536, 0);
    }

    private static void leastByMinusOne() {
        Check.sentence("the least by -1 is itself");
        binary(Check.DIV, Check.MIN, -1, Check.MIN);
        binary(Check.DIV, Check.MIN, 1, Check.MIN);
        binary(Check.DIV, Check.MIN + 1, -1, Check.MAX);
        binary(Check.DIV, Check.MAX, -1, -Check.MAX);
        binary(Check.DIV, Check.MIN, Check.MIN, 1);
        binary(Check.DIV, Check.MAX, Check.MIN, 0);
    }

    private static void less() {
        Check.sentence("less: 1 if the lower one is less");
        binary(Check.LESS, 0, 0, 0);
        binary(Check.LESS, -1, 0, 1);
        binary(Check.LESS, 0, -1, 0);
        binary(Check.LESS, Check.MIN, Check.MAX, 1);
        binary(Check.LESS, Check.MAX, Check.MIN, 0);
        binary(Check.LESS, Check.MIN, Check.MIN, 0);
        binary(Check.LESS, Check.MIN, Check.MIN + 1, 1);
    }

    private static void divisionByZero() {
        Check.sentence("div by 0 throws a new object of kind 7");
        int[] divided = {0, 1, -1, Check.MIN, Check.MAX};
        for (int lower : divided) {
            int got = Check.failure(1, "", Check.PUSH, lower, Check.PUSH, 0, Check.DIV, 0, Check.RETURN, 0);
            Check.due(lower + " by 0", got, 7);
        }
        binary(Check.DIV, 0, 1, 0);
        binary(Check.DIV, 0, -1, 0);
    }

    private static void ofNull() {
        Check.sentence("get, put, ref get, ref put, throw, enter, leave of null one of kind 6");
        int[][] codes = {
            {Check.NULL, 0, Check.GET, 0, Check.POP, 0, Check.RETURN, 0},
            {Check.NULL, 0, Check.PUSH, 1, Check.PUT, 3, Check.RETURN, 0},
            {Check.NULL, 0, Check.REF_GET, 4, Check.POP, 0, Check.RETURN, 0},
            {Check.NULL, 0, Check.NULL, 0, Check.REF_PUT, 7, Check.RETURN, 0},
            {Check.NULL, 0, Check.THROW, 0},
            {Check.NULL, 0, Check.ENTER, 0, Check.RETURN, 0},
            {Check.NULL, 0, Check.LEAVE, 0, Check.RETURN, 0}};
        for (int[] pairs : codes) {
            Check.due("op " + pairs[pairs[2] <= Check.NULL ? 4 : 2] + " of null", Check.failure(0, "", pairs), 6);
        }
        Check.due("ref put of null into an object is none", Check.outcome(0, "", Check.NEW, 0, Check.NULL, 0,
                Check.REF_PUT, 7, Check.RETURN, 0), 0);
        Check.due("null is of no kind, and is no failure",
                Check.outcome(1, "", Check.NULL, 0, Check.IS, 6, Check.RETURN, 0), 0);
        Check.due("none and set global of null are none", Check.outcome(0, "", Check.NULL, 0, Check.SET_GLOBAL, 0,
                Check.NULL, 0, Check.NONE, 4, Check.RETURN, 0), 0);
    }

    private static void leaveOfWhatIsNotHeld() {
        Check.sentence("leave of a monitor that the thread does not hold one of kind 8");
        Check.due("entered by none", Check.failure(0, "", Check.NEW, 0, Check.LEAVE, 0, Check.RETURN, 0), 8);
        for (int leaves = 1; leaves <= 3; leaves++) {
            JudgedCodes x = new JudgedCodes();
            Check.code(x, 0, 0, "2", Check.NEW, 0, Check.STORE, 0, Check.LOAD, 0, Check.DUP, 0, Check.ENTER, 0,
                    Check.ENTER, 0);
            for (int i = 0; i < leaves; i++) {
                x.add(Check.LOAD, 0);
                x.add(Check.LEAVE, 0);
            }
            x.add(Check.RETURN, 0);
            x.thread(0);
            Check.due("entered twice, left " + leaves + " times", x.run(0, 99), leaves <= 2 ? 1 : 2);
            Check.due("the failure", x.object(2, 0), leaves <= 2 ? -14 : 8);
        }
        JudgedCodes y = new JudgedCodes();
        Check.code(y, 0, 0, "", Check.NEW, 0, Check.DUP, 0, Check.SET_GLOBAL, 0, Check.ENTER, 0, Check.JUMP, 4);
        Check.code(y, 0, 0, "", Check.GLOBAL, 0, Check.LEAVE, 0, Check.RETURN, 0);
        y.thread(0);
        y.thread(1);
        y.run(0, 9);
        Check.due("held by another thread", y.run(1, 9), 2);
        Check.due("the failure", y.object(y.told(1, 2), 0), 8);
        Check.due("the other one still holds it", y.object(1, 1) * 10 + y.object(1, 2), 1);
    }

    private static void leaveLooksForNullFirst() {
        Check.sentence("(looked at in this order; nothing is taken before)");
        Check.due("leave of null, which is not held",
                Check.failure(0, "", Check.NULL, 0, Check.LEAVE, 0, Check.RETURN, 0), 6);
    }

    /** Code 0 calls code 1 with a number; code 1 calls itself with less, and at 0 the code that returns at once. */
    private static JudgedCodes deep(int number) {
        JudgedCodes x = new JudgedCodes();
        Check.code(x, 0, 1, "", Check.PUSH, number, Check.CALL, 1, Check.RETURN, 0);
        Check.code(x, 1, 1, "1", Check.LOAD, 0, Check.ZERO, 7, Check.LOAD, 0, Check.PUSH, 1, Check.SUB, 0,
                Check.CALL, 1, Check.RETURN, 0, Check.CALL, 2, Check.RETURN, 0);
        Check.code(x, 0, 1, "", Check.PUSH, 5, Check.RETURN, 0);
        x.thread(0);
        return x;
    }

    private static void thirtyFrames() {
        Check.sentence("each with at most 30 FRAMES");
        JudgedCodes x = deep(27);
        int most = 0;
        for (int i = 0; i < 250 && x.run(0, 1) == 0; i++) {
            most = Math.max(most, x.told(0, 1));
        }
        Check.due("the most frames", most, 30);
        Check.due("a call at 29 frames returns", x.run(0, 0), 1);
        Check.due("with its result", x.told(0, 2), 5);
    }

    private static void callAtThirtyFrames() {
        Check.sentence("a call at 30 frames one of kind 9");
        JudgedCodes x = deep(28);
        Check.due("a call at 30 frames", x.run(0, 10000), 2);
        Check.due("the failure", x.object(x.told(0, 2), 0), 9);
        Check.due("no frames are left", x.told(0, 1), 0);
    }

    private static void framesOfEachThread() {
        Check.sentence("at most 8 threads, each with at most 30 FRAMES");
        JudgedCodes x = new JudgedCodes();
        Check.code(x, 0, 0, "", Check.CALL, 0, Check.RETURN, 0);
        for (int t = 0; t < 8; t++) {
            x.thread(0);
            Check.due("29 calls of thread " + t, x.run(t, 29), 0);
        }
        for (int t = 0; t < 8; t++) {
            Check.due("frames of thread " + t, x.told(t, 1), 30);
            Check.due("one call more", x.run(t, 1), 2);
            Check.due("its failure", x.told(t, 2), t + 1);
        }
    }

    /** The frame on top takes the failure of its own call, with nothing but the object laid, and returns. */
    private static void depthFailureIsTaken() {
        Check.sentence("a call at 30 frames one of kind 9 (looked at in this order; nothing is taken before)");
        JudgedCodes x = new JudgedCodes();
        Check.code(x, 0, 0, "", Check.PUSH, 3, Check.CALL, 1, Check.RETURN, 0);
        Check.code(x, 1, 0, "1", Check.PUSH, 7, Check.LOAD, 0, Check.CALL, 1, Check.POP, 0, Check.RETURN, 0,
                Check.POP, 0, Check.RETURN, 0);
        x.row(0, 5, 5, 9);
        x.thread(0);
        x.run(0, 2 + 28 * 3 + 2);
        Check.due("before the call", x.told(0, 1) * 100 + x.told(0, 5) * 10 + x.told(0, 4), 3022);
        Check.due("the call is a step", x.run(0, 1), 0);
        Check.due("the frames", x.told(0, 1), 30);
        Check.due("the third place", x.told(0, 4), 5);
        Check.due("the object alone", x.told(0, 5), 1);
        Check.due("its kind", x.object(x.value(0, 0), 0), 9);
        Check.due("the frame's local", x.value(0, -1), 3);
        Check.due("all return", x.run(0, 1000), 1);
    }

    private static void enterOften() {
        Check.sentence("the thread that holds its monitor, -1 none (1), how often (2)");
        JudgedCodes x = new JudgedCodes();
        Check.code(x, 0, 0, "2", Check.NEW, 0, Check.STORE, 0, Check.LOAD, 0, Check.ENTER, 0, Check.JUMP, 2);
        x.thread(0);
        Check.due("a monitor that the thread holds itself is no reason to wait", x.run(0, 10000), 0);
        Check.due("its holder", x.object(1, 1), 0);
        Check.due("how often", x.object(1, 2), 3333);
    }

    private static void enterOfAHeldMonitor() {
        Check.sentence("enter of a monitor that another thread holds: the thread waits, no step is done");
        JudgedCodes x = new JudgedCodes();
        Check.code(x, 0, 0, "", Check.NEW, 0, Check.DUP, 0, Check.SET_GLOBAL, 0, Check.ENTER, 0, Check.GLOBAL, 0,
                Check.LEAVE, 0, Check.JUMP, 6);
        Check.code(x, 0, 0, "", Check.PUSH, 4, Check.GLOBAL, 0, Check.ENTER, 0, Check.POP, 0, Check.RETURN, 0);
        x.thread(0);
        x.thread(1);
        x.run(0, 4);
        Check.due("up to the enter it may go on", x.run(1, 2), 0);
        for (int n = 1; n <= 10000; n *= 10) {
            Check.due("run(1, " + n + ")", x.run(1, n), 3);
            Check.due("its steps", x.told(1, 0), 2);
            Check.due("its instruction", x.told(1, 4), 2);
            Check.due("its values", x.told(1, 5) * 100 + x.value(1, 1) * 10 + x.value(1, 0), 241);
            Check.due("the holder, once", x.object(1, 1) * 10 + x.object(1, 2), 1);
        }
        Check.due("the holder leaves", x.run(0, 2), 0);
        Check.due("the enter is a step", x.run(1, 1), 0);
        Check.due("its steps", x.told(1, 0), 3);
        Check.due("the holder now, once", x.object(1, 1) * 10 + x.object(1, 2), 11);
    }

    /** A failure at each of five calls, and a row from each place up to each other one. */
    private static void rowsCoverPlaces() {
        Check.sentence("A ROW: from a place on up to before another one, to a third one");
        for (int from = 0; from <= 4; from++) {
            for (int to = from + 1; to <= 5; to++) {
                for (int thrower = 0; thrower <= 4; thrower++) {
                    JudgedCodes x = throwing(thrower, from, to);
                    boolean covered = from <= thrower && thrower < to;
                    String what = "row " + from + " .. " + to + " and a failure at " + thrower;
                    Check.due(what, x.run(0, 99), covered ? 1 : 2);
                    Check.due(what + ": the end", x.told(0, 2), covered ? 70 : 1);
                }
            }
        }
    }

    private static JudgedCodes throwing(int thrower, int from, int to) {
        JudgedCodes x = new JudgedCodes();
        x.code(0, 1);
        for (int i = 0; i < 5; i++) {
            x.add(Check.CALL, i == thrower ? 1 : 2);
        }
        x.add(Check.JUMP, 0);
        x.add(Check.POP, 0);
        x.add(Check.PUSH, 70);
        x.add(Check.RETURN, 0);
        x.row(from, to, 6, 10);
        Check.code(x, 0, 0, "", Check.NULL, 0, Check.THROW, 0);
        Check.code(x, 0, 0, "", Check.RETURN, 0);
        x.thread(0);
        return x;
    }

    private static void rowsOfKinds() {
        Check.sentence("for a kind 0 .. 9, or 10 for any");
        for (int of = 0; of <= 10; of++) {
            for (int kind = 0; kind <= 9; kind++) {
                JudgedCodes x = new JudgedCodes();
                Check.code(x, 0, 0, "", Check.NEW, kind, Check.THROW, 0, Check.POP, 0, Check.RETURN, 0);
                x.row(0, 2, 2, of);
                x.thread(0);
                boolean taken = of == kind || of == 10;
                Check.due("a row of " + of + " for an object of " + kind, x.run(0, 9), taken ? 1 : 2);
            }
        }
    }

    /** Of twenty rows some do not cover, and some are for another kind; of the two that take, the first one does. */
    private static void firstOfTwentyRows() {
        Check.sentence("the first row, in order, that covers it, for any or for the object's kind");
        for (int first = 0; first < 20; first++) {
            JudgedCodes x = new JudgedCodes();
            Check.code(x, 0, 1, "", Check.NEW, 3, Check.THROW, 0, Check.POP, 0, Check.PUSH, 20, Check.RETURN, 0,
                    Check.POP, 0, Check.PUSH, 50, Check.RETURN, 0);
            for (int i = 0; i < 20; i++) {
                boolean takes = i >= first;
                boolean covers = takes || i % 2 == 0;
                x.row(covers ? 0 : 2, covers ? 2 : 8, i == first ? 2 : 5, takes ? 3 + 7 * (i % 2) : 4 + 6 * (i % 2));
            }
            x.thread(0);
            Check.due("row " + first + " is the first that takes it", x.run(0, 99), 1);
            Check.due("so it goes on there", x.told(0, 2), 20);
        }
    }

    private static void theObjectAlone() {
        Check.sentence("the values are the object alone, and it goes on at the third place");
        for (int values = 1; values <= 12; values++) {
            JudgedCodes x = new JudgedCodes();
            x.code(0, 0);
            for (int i = 1; i < values; i++) {
                x.add(Check.PUSH, 40 + i);
            }
            x.add(Check.NEW, 2);
            x.add(Check.THROW, 0);
            x.add(Check.POP, 0);
            x.add(Check.RETURN, 0);
            x.row(0, values + 1, values + 1, 2);
            x.thread(0);
            Check.due("the throw at " + values, x.run(0, values + 1), 0);
            Check.due("how many values", x.told(0, 5), 1);
            Check.due("which is the object", x.value(0, 0), 1);
            Check.due("none below it", x.value(0, 1), 0);
            Check.due("the third place", x.told(0, 4), values + 1);
            Check.due("the throw made none", x.object(2, 0), -14);
        }
    }

    private static void takerThatThrows() {
        Check.sentence("the first row, in order, that covers it");
        JudgedCodes x = new JudgedCodes();
        Check.code(x, 0, 0, "", Check.NULL, 0, Check.THROW, 0, Check.THROW, 0);
        x.row(0, 3, 2, 6);
        x.thread(0);
        Check.due("a taker that its own row covers", x.run(0, 1000), 0);
        Check.due("stays there", x.told(0, 4), 2);
        Check.due("with the one object", x.value(0, 0), 1);
        Check.due("and no other", x.object(2, 0), -14);
    }

    private static void thrownAtTheCall() {
        Check.sentence("Else the frame ends, and it is thrown at the call in the frame below");
        JudgedCodes x = new JudgedCodes();
        Check.code(x, 0, 1, "", Check.PUSH, 8, Check.PUSH, 9, Check.CALL, 1, Check.ADD, 0, Check.RETURN, 0,
                Check.POP, 0, Check.PUSH, 3, Check.RETURN, 0);
        x.row(0, 5, 5, 4);
        Check.code(x, 0, 0, "", Check.CALL, 2, Check.RETURN, 0, Check.POP, 0, Check.RETURN, 0);
        x.row(1, 4, 2, 4);
        x.row(0, 2, 2, 5);
        Check.code(x, 0, 0, "", Check.NEW, 4, Check.THROW, 0);
        Check.due("thread(0)", x.thread(0), 0);
        x.run(0, 5);
        Check.due("three frames before the throw", x.told(0, 1), 3);
        Check.due("the throw is one step", x.run(0, 1), 0);
        Check.due("two frames have ended", x.told(0, 1), 1);
        Check.due("the object alone", x.told(0, 5) * 10 + x.value(0, 0), 11);
        Check.due("at the third place", x.told(0, 4), 5);
        Check.due("the end", x.run(0, 9), 1);
        Check.due("what it ended with", x.told(0, 2), 3);
    }

    private static void thrownThroughAllFrames() {
        Check.sentence("without frames the thread has ended by it");
        JudgedCodes x = new JudgedCodes();
        Check.code(x, 0, 0, "", Check.CALL, 0, Check.RETURN, 0, Check.POP, 0, Check.JUMP, 0);
        x.row(0, 2, 2, 8);
        x.row(1, 2, 2, 10);
        x.thread(0);
        Check.due("thirty frames", x.run(0, 29), 0);
        Check.due("the failure ends all of them in one step", x.run(0, 1), 2);
        Check.due("no frames", x.told(0, 1), 0);
        Check.due("no code on top", x.told(0, 3), -1);
        Check.due("no instruction", x.told(0, 4), -1);
        Check.due("no values", x.told(0, 5), 0);
        Check.due("what it ended with", x.told(0, 2), 1);
        Check.due("its steps", x.told(0, 0), 30);
    }

    private static void endedHoldsNoMonitor() {
        Check.sentence("An ended thread holds no monitor.");
        for (int end = 1; end <= 2; end++) {
            JudgedCodes x = new JudgedCodes();
            Check.code(x, 0, 0, "2", Check.NEW, 0, Check.STORE, 0, Check.LOAD, 0, Check.ENTER, 0, Check.LOAD, 0,
                    Check.ENTER, 0, Check.NEW, 1, Check.ENTER, 0, Check.PUSH, end - 1, Check.ZERO, 12, Check.NULL, 0,
                    Check.THROW, 0, Check.RETURN, 0);
            Check.code(x, 0, 0, "", Check.NEW, 2, Check.ENTER, 0, Check.JUMP, 2);
            x.thread(0);
            x.thread(1);
            x.run(0, 9);
            x.run(1, 9);
            Check.due("the first is held twice", x.object(1, 1) * 10 + x.object(1, 2), 2);
            Check.due("the second is held once", x.object(2, 1) * 10 + x.object(2, 2), 1);
            Check.due("the end", x.run(0, 9), end);
            Check.due("the first is free", x.object(1, 1) * 10 + x.object(1, 2), -10);
            Check.due("the second is free", x.object(2, 1) * 10 + x.object(2, 2), -10);
            Check.due("another thread's is not", x.object(3, 1) * 10 + x.object(3, 2), 11);
        }
    }

    /** 512 calls in all, most of them as long as a run may be. */
    private static void calledFiveHundredTimes() {
        Check.sentence("An object is used for at most 512 calls after it has been made");
        JudgedCodes x = new JudgedCodes();
        x.code(0, 0);
        x.add(Check.JUMP, 0);
        x.thread(0);
        for (int call = 4; call <= 511; call++) {
            Check.due("call " + call, x.run(0, 10000), 0);
        }
        Check.due("call 512", x.told(0, 0), 508 * 10000);
    }
}
