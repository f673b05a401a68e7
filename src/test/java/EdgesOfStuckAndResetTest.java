/** Promises 13 and 14: a test for each sentence that names an edge. */
public final class EdgesOfStuckAndResetTest {
    private static final int FIRST = 0;
    private static final int SECOND = 1;
    private static final int THIRD = 2;
    private static final int ENDS = 3;
    private static final int GOES_ON = 4;
    private static final int FILLS = 5;

    public static void main(String[] args) {
        noThreads();
        allHaveEnded();
        twoToEight();
        endedDoNotCount();
        oneIsNotYetAtItsStep();
        oneMayGoOn();
        oneCouldGoOn();
        withoutRoom();
        resetOfANewObject();
        resetTwice();
        noThreadsBehindAReset();
        noObjectsBehindAReset();
        globalsBehindAReset();
        codesStay();
        noneIsOpen();
        Check.end();
    }

    /**
     * The first and the second code make a global each, enter it, and then enter the other one's; the third one
     * enters the first one's.
     */
    private static JudgedCodes ring() {
        JudgedCodes x = new JudgedCodes();
        for (int g = 0; g < 2; g++) {
            Check.code(x, 0, 0, "", Check.NEW, 0, Check.SET_GLOBAL, g, Check.GLOBAL, g, Check.ENTER, 0,
                    Check.GLOBAL, 1 - g, Check.ENTER, 0, Check.RETURN, 0);
        }
        Check.code(x, 0, 0, "", Check.GLOBAL, 0, Check.ENTER, 0, Check.RETURN, 0);
        Check.code(x, 0, 0, "", Check.RETURN, 0);
        Check.code(x, 0, 0, "", Check.JUMP, 0);
        Check.code(x, 0, 0, "1", Check.LOAD, 0, Check.PUSH, 1997, Check.LESS, 0, Check.ZERO, 11,
                Check.LOAD, 0, Check.PUSH, 1, Check.ADD, 0, Check.STORE, 0, Check.NEW, 0, Check.POP, 0, Check.JUMP, 0,
                Check.NULL, 0, Check.THROW, 0);
        return x;
    }

    /** Threads 0 and 1 hold their globals, and are at the steps before the enters of the other ones. */
    private static JudgedCodes holding() {
        JudgedCodes x = ring();
        x.thread(FIRST);
        x.thread(SECOND);
        x.run(0, 4);
        x.run(1, 4);
        return x;
    }

    private static JudgedCodes stuckTwo() {
        JudgedCodes x = holding();
        Check.due("the first one waits", x.run(0, 9), 3);
        Check.due("the second one waits", x.run(1, 9), 3);
        return x;
    }

    private static void noThreads() {
        Check.sentence("How many threads have not ended, if all of them wait and none could go on; else 0.");
        Check.due("of a new object", new JudgedCodes().stuck(), 0);
        Check.due("of codes alone", ring().stuck(), 0);
    }

    private static void allHaveEnded() {
        Check.sentence("How many threads have not ended");
        JudgedCodes x = Check.ran(0, "", Check.RETURN, 0);
        Check.due("one has ended", x.stuck(), 0);
        JudgedCodes y = Check.ran(0, "", Check.NULL, 0, Check.THROW, 0);
        Check.due("one was ended by a failure", y.stuck(), 0);
    }

    private static void twoToEight() {
        Check.sentence("How many threads have not ended, if all of them wait and none could go on");
        for (int size = 2; size <= 8; size++) {
            JudgedCodes x = holding();
            for (int t = 2; t < size; t++) {
                Check.due("thread " + t, x.thread(THIRD), t);
            }
            for (int t = 0; t < size; t++) {
                Check.due("not all wait", x.stuck(), 0);
                Check.due("thread " + t + " waits", x.run(t, 9), 3);
            }
            Check.due("all wait", x.stuck(), size);
            Check.due("asked again", x.stuck(), size);
        }
    }

    private static void endedDoNotCount() {
        Check.sentence("How many threads have not ended, if all of them wait");
        JudgedCodes x = stuckTwo();
        for (int t = 2; t < 8; t++) {
            x.thread(ENDS);
            Check.due("one more has not ended", x.stuck(), 0);
            Check.due("it ends", x.run(t, 1), 1);
            Check.due("the two that have not ended", x.stuck(), 2);
        }
    }

    private static void oneIsNotYetAtItsStep() {
        Check.sentence("if all of them wait");
        JudgedCodes x = holding();
        x.run(0, 9);
        Check.due("one more step", x.run(1, 1), 0);
        Check.due("its enter was not to be done so far", x.stuck(), 0);
        Check.due("no step", x.run(1, 0), 0);
        Check.due("not so far", x.stuck(), 0);
        Check.due("it is to be done", x.run(1, 1), 3);
        Check.due("both wait", x.stuck(), 2);
    }

    private static void oneMayGoOn() {
        Check.sentence("if all of them wait and none could go on; else 0");
        JudgedCodes x = stuckTwo();
        x.thread(GOES_ON);
        x.run(2, 10000);
        Check.due("two wait, one goes on", x.stuck(), 0);
    }

    /** All wait, but then the one whose monitor they wait for ends. */
    private static void oneCouldGoOn() {
        Check.sentence("if all of them wait and none could go on; else 0");
        JudgedCodes x = new JudgedCodes();
        Check.code(x, 0, 0, "", Check.NEW, 0, Check.DUP, 0, Check.SET_GLOBAL, 0, Check.ENTER, 0, Check.RETURN, 0);
        Check.code(x, 0, 0, "", Check.GLOBAL, 0, Check.ENTER, 0, Check.JUMP, 2);
        x.thread(0);
        x.thread(1);
        x.thread(1);
        x.run(0, 4);
        x.run(1, 9);
        x.run(2, 9);
        Check.due("the holder does not wait", x.stuck(), 0);
        x.run(0, 1);
        Check.due("both could go on", x.stuck(), 0);
        x.run(1, 1);
        Check.due("one goes on, one waits", x.stuck(), 0);
    }

    private static void withoutRoom() {
        Check.sentence("if all of them wait and none could go on");
        JudgedCodes x = stuckTwo();
        x.thread(FILLS);
        x.run(2, 10000);
        x.run(2, 10000);
        Check.due("it fills the room, and its failure ends it", x.run(2, 10000), 2);
        Check.due("the last object", x.told(2, 2), 2000);
        Check.due("two are stuck without room", x.stuck(), 2);
    }

    private static void resetOfANewObject() {
        Check.sentence("No threads and no objects, globals null; codes stay, none is open.");
        JudgedCodes x = new JudgedCodes();
        x.reset();
        Check.due("no code", x.judge(0), -14);
        Check.due("none is open", x.add(Check.RETURN, 0), -14);
        Check.due("the first code", x.code(0, 0), 0);
    }

    private static void resetTwice() {
        Check.sentence("No threads and no objects, globals null; codes stay, none is open.");
        JudgedCodes x = stuckTwo();
        x.reset();
        x.reset();
        Check.due("no threads", x.told(0, 0), -14);
        Check.due("codes stay", x.judge(THIRD), 1);
        Check.due("the next code", x.code(0, 0), FILLS + 1);
    }

    private static void noThreadsBehindAReset() {
        Check.sentence("No threads and no objects");
        JudgedCodes x = stuckTwo();
        for (int t = 2; t < 8; t++) {
            x.thread(THIRD);
            x.run(t, 9);
        }
        Check.due("eight are stuck", x.stuck(), 8);
        x.reset();
        Check.due("none is stuck", x.stuck(), 0);
        for (int t = 0; t < 8; t++) {
            Check.due("told(" + t + ", 1)", x.told(t, 1), -14);
            Check.due("run(" + t + ", 0)", x.run(t, 0), -14);
            Check.due("value(" + t + ", 0)", x.value(t, 0), 0);
        }
        for (int t = 0; t < 8; t++) {
            Check.due("thread " + t + " anew", x.thread(THIRD), t);
            Check.due("its steps", x.told(t, 0), 0);
            Check.due("it waits for none", x.told(t, 6), 0);
            Check.due("it may go on", x.run(t, 0), 0);
        }
        Check.due("none is stuck anew", x.stuck(), 0);
        Check.due("a ninth", x.thread(THIRD), -12);
    }

    private static void noObjectsBehindAReset() {
        Check.sentence("No threads and no objects");
        JudgedCodes x = stuckTwo();
        Check.due("a held object", x.object(2, 1), 1);
        x.reset();
        Check.due("object(1, 0)", x.object(1, 0), -14);
        Check.due("object(2, 1)", x.object(2, 1), -14);
        x.thread(FIRST);
        x.run(0, 1);
        Check.due("object 1 anew", x.object(1, 0), 0);
        Check.due("held by none", x.object(1, 1), -1);
        Check.due("not once", x.object(1, 2), 0);
        Check.due("object 2 is none", x.object(2, 0), -14);
    }

    private static void globalsBehindAReset() {
        Check.sentence("globals null");
        JudgedCodes x = new JudgedCodes();
        x.code(0, 0);
        for (int g = 0; g < 4; g++) {
            x.add(Check.NEW, g);
            x.add(Check.SET_GLOBAL, g);
        }
        x.add(Check.RETURN, 0);
        x.thread(0);
        x.run(0, 99);
        for (int g = 0; g < 4; g++) {
            Check.due("global(" + g + ")", x.global(g), g + 1);
        }
        x.reset();
        for (int g = 0; g < 4; g++) {
            Check.due("global(" + g + ") behind a reset", x.global(g), 0);
        }
    }

    private static void codesStay() {
        Check.sentence("codes stay");
        JudgedCodes x = new JudgedCodes();
        for (int c = 0; c < 40; c++) {
            Check.code(x, 0, c % 2, "", Check.PUSH, c, c % 2 == 0 ? Check.POP : Check.STORE, 0, Check.RETURN, 0);
        }
        x.reset();
        for (int c = 0; c < 40; c++) {
            Check.due("judge(" + c + ")", x.judge(c), 1 - c % 2);
        }
        Check.due("a 41st", x.code(0, 0), -12);
    }

    private static void noneIsOpen() {
        Check.sentence("codes stay, none is open");
        JudgedCodes x = new JudgedCodes();
        Check.code(x, 0, 0, "", Check.RETURN, 0);
        x.reset();
        Check.due("a local", x.local(1), -14);
        Check.due("an instruction", x.add(Check.RETURN, 0), -14);
        Check.due("a row", x.row(0, 1, 0, 0), -14);
        Check.due("the code is as it was", x.judge(0), 1);
        x.thread(0);
        x.reset();
        Check.due("a local behind a thread and a reset", x.local(1), -14);
    }
}
