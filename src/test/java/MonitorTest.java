/** Monitors, waiting, and promise 13: stuck. */
public final class MonitorTest {
    public static void main(String[] args) {
        enteredOften();
        heldByAnother();
        waiting();
        standingAtAnEnter();
        standingAtTheNextEnter();
        standingAtAnEnterAnew();
        letOnByAnEnd();
        takenByAThird();
        waitingForNoOther();
        endedHoldsNone();
        endedByFailureHoldsNone();
        stuckInARing();
        stuckOnceTheyWait();
        notStuck();
        waitingWithoutRoom();
        letOnWithoutRoom();
        waitingWithoutRoomForLife();
        atAnEnterWithoutRoom();
        Check.end();
    }

    private static void enteredOften() {
        JudgedCodes x = new JudgedCodes();
        Check.code(x, 0, 0, "2", Check.NEW, 0, Check.STORE, 0, Check.LOAD, 0, Check.ENTER, 0, Check.LOAD, 0,
                Check.ENTER, 0, Check.LOAD, 0, Check.LEAVE, 0, Check.LOAD, 0, Check.LEAVE, 0, Check.LOAD, 0,
                Check.LEAVE, 0, Check.RETURN, 0);
        x.thread(0);
        int[] holder = {-1, 0, 0, 0, -1};
        int[] often = {0, 1, 2, 1, 0};
        for (int i = 0; i < 5; i++) {
            x.run(0, 2);
            Check.due("its holder", x.object(1, 1), holder[i]);
            Check.due("how often", x.object(1, 2), often[i]);
        }
        Check.due("once too often", x.run(0, 2), 2);
        Check.due("the failure", x.object(x.told(0, 2), 0), 8);
    }

    /** Thread 0 makes global 0 and holds it; 1 is to leave it, 2 to enter it and to leave it again. */
    private static JudgedCodes held() {
        JudgedCodes x = new JudgedCodes();
        Check.code(x, 0, 0, "", Check.NEW, 0, Check.SET_GLOBAL, 0, Check.GLOBAL, 0, Check.ENTER, 0, Check.GLOBAL, 0,
                Check.LEAVE, 0, Check.JUMP, 6);
        Check.code(x, 0, 0, "", Check.GLOBAL, 0, Check.LEAVE, 0, Check.RETURN, 0);
        Check.code(x, 0, 1, "", Check.GLOBAL, 0, Check.ENTER, 0, Check.GLOBAL, 0, Check.LEAVE, 0, Check.PUSH, 9,
                Check.RETURN, 0);
        for (int t = 0; t < 3; t++) {
            Check.due("thread " + t, x.thread(t), t);
        }
        x.run(0, 4);
        return x;
    }

    private static void heldByAnother() {
        JudgedCodes x = held();
        Check.due("leave of what another one holds", x.run(1, 9), 2);
        Check.due("is a failure", x.object(x.told(1, 2), 0), 8);
        Check.due("which leaves it held", x.object(1, 1), 0);
        Check.due("once", x.object(1, 2), 1);
    }

    private static void waiting() {
        JudgedCodes x = held();
        x.run(1, 9);
        Check.due("at first it may go on", x.run(2, 0), 0);
        Check.due("and waits for none", x.told(2, 6), 0);
        Check.due("it waits", x.run(2, 9), 3);
        Check.due("for object 1", x.told(2, 6), 1);
        Check.due("one step was done", x.told(2, 0), 1);
        Check.due("at the enter", x.told(2, 4), 1);
        Check.due("nothing was taken", x.value(2, 0), 1);
        Check.due("it waits on", x.run(2, 9), 3);
        Check.due("still one step", x.told(2, 0), 1);
        Check.due("no step is asked for, and it waits", x.run(2, 0), 3);
        Check.due("the other one may go on", x.stuck(), 0);
        Check.due("it leaves", x.run(0, 2), 0);
        Check.due("none holds it", x.object(1, 1), -1);
        Check.due("so it waits for none", x.told(2, 6), 0);
        Check.due("it may go on", x.run(2, 0), 0);
        Check.due("it could go on", x.stuck(), 0);
        Check.due("now it enters", x.run(2, 1), 0);
        Check.due("and waits for none still", x.told(2, 6), 0);
        Check.due("it holds it", x.object(1, 1), 2);
        Check.due("its end", x.run(2, 9), 1);
        Check.due("its outcome", x.told(2, 2), 9);
        Check.due("none holds it again", x.object(1, 1), -1);
    }

    /** A thread whose last step brings it to the enter does not wait before that was to be done. */
    private static void standingAtAnEnter() {
        JudgedCodes x = held();
        Check.due("one step, and it may go on", x.run(2, 1), 0);
        Check.due("it is at the enter", x.told(2, 4), 1);
        Check.due("it waits for none", x.told(2, 6), 0);
        Check.due("no step is asked for", x.run(2, 0), 0);
        Check.due("it waits for none still", x.told(2, 6), 0);
        Check.due("one step more, and it waits", x.run(2, 1), 3);
        Check.due("for object 1", x.told(2, 6), 1);
        Check.due("no step more, and it waits", x.run(2, 0), 3);
        Check.due("one step was done", x.told(2, 0), 1);
        x.run(0, 2);
        Check.due("left, it waits for none", x.told(2, 6), 0);
        Check.due("left, it may go on", x.run(2, 0), 0);
    }

    /** What was waited for once is no reason to wait at the next enter before that was to be done. */
    private static void standingAtTheNextEnter() {
        JudgedCodes x = new JudgedCodes();
        Check.code(x, 0, 0, "", Check.NEW, 0, Check.SET_GLOBAL, 0, Check.NEW, 1, Check.SET_GLOBAL, 1,
                Check.GLOBAL, 0, Check.ENTER, 0, Check.GLOBAL, 1, Check.ENTER, 0, Check.GLOBAL, 0, Check.LEAVE, 0,
                Check.RETURN, 0);
        Check.code(x, 0, 0, "", Check.GLOBAL, 1, Check.GLOBAL, 0, Check.ENTER, 0, Check.ENTER, 0, Check.RETURN, 0);
        x.thread(0);
        x.thread(1);
        x.run(0, 8);
        Check.due("it waits", x.run(1, 3), 3);
        Check.due("for the first one", x.told(1, 6), 1);
        x.run(0, 2);
        Check.due("it enters the first one", x.run(1, 1), 0);
        Check.due("and is at the enter of the second", x.told(1, 4), 3);
        Check.due("which it does not wait for yet", x.told(1, 6), 0);
        Check.due("no step is asked for", x.run(1, 0), 0);
        Check.due("one is", x.run(1, 1), 3);
        Check.due("it waits for the second one", x.told(1, 6), 2);
    }

    /** Threads begin anew behind a reset: none waits for what one of that number waited for. */
    private static void standingAtAnEnterAnew() {
        JudgedCodes x = held();
        Check.due("it waits", x.run(2, 9), 3);
        x.reset();
        for (int t = 0; t < 3; t++) {
            x.thread(t);
        }
        x.run(0, 4);
        Check.due("anew, one step, and it may go on", x.run(2, 1), 0);
        Check.due("anew, it waits for none", x.told(2, 6), 0);
    }

    /** The holder ends, by a return or by a failure: who waited for its monitor may go on. */
    private static void letOnByAnEnd() {
        for (int end = 1; end <= 2; end++) {
            JudgedCodes x = new JudgedCodes();
            Check.code(x, 0, 0, "", Check.NEW, 0, Check.SET_GLOBAL, 1, Check.GLOBAL, 1, Check.ENTER, 0,
                    Check.PUSH, end, Check.PUSH, 2, Check.SUB, 0, Check.ZERO, 9, Check.RETURN, 0,
                    Check.NULL, 0, Check.THROW, 0);
            Check.code(x, 0, 1, "", Check.GLOBAL, 1, Check.ENTER, 0, Check.PUSH, 8, Check.RETURN, 0);
            x.thread(0);
            x.thread(1);
            x.run(0, 4);
            Check.due("it waits", x.run(1, 2), 3);
            Check.due("for object 1", x.told(1, 6), 1);
            Check.due("the holder ends", x.run(0, 9), end);
            Check.due("it waits for none", x.told(1, 6), 0);
            Check.due("it may go on", x.run(1, 0), 0);
            Check.due("none is stuck", x.stuck(), 0);
            Check.due("it goes on", x.run(1, 9), 1);
            Check.due("to its end", x.told(1, 2), 8);
            Check.due("an ended thread waits for none", x.told(1, 6), 0);
        }
    }

    /** What was left is entered by a third thread: then it is that one's end that lets on. */
    private static void takenByAThird() {
        JudgedCodes x = new JudgedCodes();
        Check.code(x, 0, 0, "", Check.NEW, 0, Check.SET_GLOBAL, 0, Check.RETURN, 0);
        Check.code(x, 0, 0, "", Check.GLOBAL, 0, Check.ENTER, 0, Check.RETURN, 0);
        for (int t = 0; t < 4; t++) {
            x.thread(Math.min(t, 1));
        }
        x.run(0, 9);
        x.run(1, 2);
        Check.due("thread 2 waits", x.run(2, 9), 3);
        Check.due("thread 3 waits", x.run(3, 9), 3);
        x.run(1, 9);
        Check.due("both may go on", x.told(2, 6) + x.told(3, 6), 0);
        Check.due("thread 3 is the first", x.run(3, 1), 0);
        Check.due("so thread 2 waits again", x.told(2, 6), 1);
        Check.due("and no step is asked for", x.run(2, 0), 3);
        Check.due("the holder does not wait", x.told(3, 6), 0);
        x.run(3, 9);
        Check.due("it may go on at last", x.run(2, 0), 0);
        Check.due("and ends", x.run(2, 9), 1);
    }

    /** An enter of one's own monitor, of a free one, or of null is none that waits. */
    private static void waitingForNoOther() {
        JudgedCodes x = new JudgedCodes();
        Check.code(x, 0, 0, "", Check.NEW, 0, Check.DUP, 0, Check.ENTER, 0, Check.ENTER, 0, Check.NULL, 0,
                Check.ENTER, 0, Check.RETURN, 0);
        x.thread(0);
        int[] before = {2, 1, 2};
        for (int n : before) {
            Check.due("it may go on", x.run(0, n), 0);
            Check.due("it is at an enter", x.told(0, 4) == 2 || x.told(0, 4) == 3 || x.told(0, 4) == 5 ? 1 : 0, 1);
            Check.due("it waits for none", x.told(0, 6), 0);
            Check.due("it is not stuck", x.stuck(), 0);
        }
        Check.due("null is a failure", x.run(0, 1), 2);
        Check.due("of its kind", x.object(x.told(0, 2), 0), 6);
    }

    private static void endedHoldsNone() {
        JudgedCodes x = new JudgedCodes();
        Check.code(x, 0, 0, "2", Check.NEW, 0, Check.DUP, 0, Check.ENTER, 0, Check.DUP, 0, Check.ENTER, 0,
                Check.ENTER, 0, Check.NEW, 1, Check.ENTER, 0, Check.RETURN, 0);
        x.thread(0);
        x.run(0, 8);
        Check.due("held three times", x.object(1, 2), 3);
        Check.due("the second is held", x.object(2, 1), 0);
        Check.due("the end", x.run(0, 1), 1);
        for (int o = 1; o <= 2; o++) {
            Check.due("held by none", x.object(o, 1), -1);
            Check.due("not once", x.object(o, 2), 0);
        }
    }

    private static void endedByFailureHoldsNone() {
        JudgedCodes x = new JudgedCodes();
        Check.code(x, 0, 0, "", Check.CALL, 1, Check.RETURN, 0, Check.THROW, 0);
        x.row(0, 1, 2, 6);
        Check.code(x, 0, 0, "", Check.NEW, 0, Check.ENTER, 0, Check.NULL, 0, Check.THROW, 0);
        x.thread(0);
        x.run(0, 5);
        Check.due("a frame that ends does not leave", x.object(1, 1), 0);
        Check.due("the frame has ended", x.told(0, 1), 1);
        Check.due("the thread ends by it", x.run(0, 1), 2);
        Check.due("and holds nothing", x.object(1, 1), -1);
    }

    /** Code t makes global t, enters it, and then enters the next one of a ring. */
    private static JudgedCodes ring(int size) {
        JudgedCodes x = new JudgedCodes();
        for (int t = 0; t < size; t++) {
            Check.code(x, 0, 0, "", Check.NEW, t, Check.SET_GLOBAL, t, Check.GLOBAL, t, Check.ENTER, 0,
                    Check.GLOBAL, (t + 1) % size, Check.ENTER, 0, Check.RETURN, 0);
        }
        for (int t = 0; t < size; t++) {
            x.thread(t);
            x.run(t, 4);
        }
        return x;
    }

    private static void stuckInARing() {
        for (int size = 2; size <= 4; size++) {
            JudgedCodes x = ring(size);
            for (int t = 0; t < size; t++) {
                Check.due("not all wait yet", x.stuck(), 0);
                Check.due("thread " + t + " waits", x.run(t, 9), 3);
                Check.due("for the next one's", x.told(t, 6), (t + 1) % size + 1);
            }
            Check.due("all are stuck", x.stuck(), size);
            Check.due("it stays so", x.run(0, 9), 3);
            Check.due("all are stuck still", x.stuck(), size);
            x.thread(0);
            Check.due("a new one could go on", x.stuck(), 0);
            x.reset();
            Check.due("no threads", x.stuck(), 0);
        }
    }

    /** Threads that are at their enters, none of which could be done, are stuck once all were to be done. */
    private static void stuckOnceTheyWait() {
        JudgedCodes x = ring(3);
        for (int t = 0; t < 3; t++) {
            Check.due("the step up to the enter", x.run(t, 1), 0);
        }
        for (int t = 0; t < 3; t++) {
            Check.due("not all wait", x.stuck(), 0);
            Check.due("the enter is to be done", x.run(t, 1), 3);
        }
        Check.due("none could go on", x.stuck(), 3);
    }

    private static void notStuck() {
        JudgedCodes x = ring(2);
        x.run(0, 9);
        x.run(1, 9);
        x.thread(0);
        Check.due("a new thread has not ended", x.stuck(), 0);
        JudgedCodes y = held();
        y.run(1, 9);
        y.run(2, 9);
        Check.due("the holder does not wait", y.stuck(), 0);
        JudgedCodes z = new JudgedCodes();
        Check.code(z, 0, 0, "", Check.NEW, 0, Check.DUP, 0, Check.SET_GLOBAL, 0, Check.ENTER, 0, Check.RETURN, 0);
        Check.code(z, 0, 0, "", Check.GLOBAL, 0, Check.ENTER, 0, Check.RETURN, 0);
        z.thread(0);
        z.thread(1);
        z.run(0, 4);
        Check.due("it waits", z.run(1, 9), 3);
        Check.due("the holder ends", z.run(0, 1), 1);
        Check.due("the one that waits could go on", z.stuck(), 0);
        Check.due("and does", z.run(1, 9), 1);
        Check.due("all have ended", z.stuck(), 0);
    }

    /** An ended thread beside those that are stuck does not count; those wait, and that is told without room too. */
    private static void waitingWithoutRoom() {
        JudgedCodes x = new JudgedCodes();
        Check.code(x, 0, 0, "", Check.RETURN, 0);
        Check.code(x, 0, 0, "", Check.NEW, 5, Check.POP, 0, Check.JUMP, 0);
        for (int t = 0; t < 2; t++) {
            Check.code(x, 0, 0, "", Check.NEW, t, Check.SET_GLOBAL, t, Check.GLOBAL, t, Check.ENTER, 0,
                    Check.GLOBAL, 1 - t, Check.ENTER, 0, Check.RETURN, 0);
        }
        x.thread(0);
        x.thread(2);
        x.thread(3);
        x.run(0, 9);
        x.run(1, 4);
        x.run(2, 9);
        x.run(1, 9);
        Check.due("two of three are stuck", x.stuck(), 2);
        x.thread(1);
        x.run(3, 10000);
        Check.due("a thread that may go on, without room", x.run(3, 1), -12);
        for (int t = 1; t <= 2; t++) {
            Check.due("a thread that waits, without room", x.run(t, 1), 3);
            Check.due("or with more steps", x.run(t, 10000), 3);
            Check.due("or with none", x.run(t, 0), 3);
            Check.due("it waits on", x.told(t, 6), 3 - t);
            Check.due("no step more is done", x.told(t, 0), 5);
        }
        Check.due("steps outside 0 .. 10000 of one that waits", x.run(1, 10001), -14);
        Check.due("an ended thread, without room", x.run(0, 1), 1);
    }

    /** One that waited, and was let on before the room was gone, waits no more: it is kept by want of room. */
    private static void letOnWithoutRoom() {
        JudgedCodes x = held();
        x.reset();
        Check.code(x, 0, 0, "", Check.NEW, 5, Check.POP, 0, Check.JUMP, 0);
        x.thread(0);
        x.thread(2);
        x.thread(3);
        x.run(0, 4);
        Check.due("it waits", x.run(1, 9), 3);
        Check.due("the holder leaves", x.run(0, 2), 0);
        Check.due("all room is taken", x.run(2, 10000), -12);
        Check.due("it waits for none", x.told(1, 6), 0);
        Check.due("no step is asked for", x.run(1, 0), 0);
        Check.due("one is, and not begun", x.run(1, 1), -12);
    }

    /** Objects made for life are no room either, behind a reset too: who waits then, waits. */
    private static void waitingWithoutRoomForLife() {
        JudgedCodes x = held();
        x.reset();
        Check.code(x, 0, 0, "", Check.NEW, 5, Check.POP, 0, Check.JUMP, 0);
        for (int i = 0; i < 19; i++) {
            x.thread(3);
            Check.due("2000 more", x.run(0, 10000), -12);
            x.reset();
        }
        x.thread(3);
        x.run(0, 3 * 1990);
        x.reset();
        x.thread(0);
        x.thread(2);
        x.thread(3);
        x.run(0, 4);
        Check.due("it waits", x.run(1, 9), 3);
        Check.due("the last ones for life", x.run(2, 10000), -12);
        Check.due("less than 2000 of them are there", x.object(20, 0), -14);
        Check.due("it waits, without room for life", x.run(1, 9), 3);
        Check.due("for object 1", x.told(1, 6), 1);
    }

    /** Without room the enter's step is not begun: it is not the monitor that the thread is kept by. */
    private static void atAnEnterWithoutRoom() {
        JudgedCodes x = held();
        x.reset();
        Check.code(x, 0, 0, "", Check.NEW, 5, Check.POP, 0, Check.JUMP, 0);
        x.thread(0);
        x.thread(2);
        x.thread(3);
        x.run(0, 4);
        x.run(1, 1);
        Check.due("all room is taken", x.run(2, 10000), -12);
        Check.due("no step is begun", x.run(1, 1), -12);
        Check.due("it waits for none", x.told(1, 6), 0);
    }
}
