/** "A step is not begun with 2000 objects, or when 40000 were made for life": the edges of it. */
public final class EdgesOfRoomTest {
    private static final int MAKER = 0;
    private static final int KIND = 5;

    public static void main(String[] args) {
        twoThousandObjects();
        stepsDoneBefore();
        allThatWasAskedFor();
        noInstructionIsBegun();
        madeByAFailure();
        answersOfOthers();
        threadsMayBegin();
        forLife();
        failuresForLife();
        roomBehindAReset();
        Check.end();
    }

    /** Code 0 makes an object by the first of each three steps. */
    private static JudgedCodes withMaker() {
        JudgedCodes x = new JudgedCodes();
        Check.code(x, 0, 0, "", Check.NEW, KIND, Check.POP, 0, Check.JUMP, 0);
        return x;
    }

    /** Thread 0, the maker, makes so many objects and is about to make one more. */
    private static JudgedCodes made(JudgedCodes x, int objects) {
        Check.due("the maker", x.thread(MAKER), 0);
        Check.due("objects are made", x.run(0, 3 * objects), 0);
        return x;
    }

    private static void twoThousandObjects() {
        Check.sentence("OBJECTS are numbered from 1, with a kind, 8 fields (0), and a monitor; at most 2000");
        JudgedCodes x = made(withMaker(), 1999);
        Check.due("object 1", x.object(1, 0), KIND);
        Check.due("object 1999", x.object(1999, 0), KIND);
        Check.due("object 2000 so far", x.object(2000, 0), -14);
        Check.due("a step with 1999 objects", x.run(0, 1), 0);
        Check.due("object 2000", x.object(2000, 0), KIND);
        Check.due("its last field", x.object(2000, 17), 0);
        Check.due("object 2001", x.object(2001, 0), -14);
        Check.sentence("A step is not begun with 2000 objects");
        for (int n = 1; n <= 10000; n *= 100) {
            Check.due("run(0, " + n + ")", x.run(0, n), -12);
            Check.due("its steps", x.told(0, 0), 3 * 1999 + 1);
            Check.due("its instruction", x.told(0, 4), 1);
            Check.due("its value", x.value(0, 0), 2000);
        }
    }

    private static void stepsDoneBefore() {
        Check.sentence("-12 no step is begun for want of room");
        JudgedCodes x = withMaker();
        x.thread(MAKER);
        Check.due("the room ends amid a run", x.run(0, 10000), -12);
        Check.due("steps that were done", x.told(0, 0), 3 * 1999 + 1);
    }

    private static void allThatWasAskedFor() {
        Check.sentence("-12 no step is begun for want of room");
        JudgedCodes x = withMaker();
        x.thread(MAKER);
        Check.due("all steps are done, the last one takes the room", x.run(0, 3 * 1999 + 1), 0);
        Check.due("none is asked for", x.run(0, 0), 0);
        Check.due("one is asked for", x.run(0, 1), -12);
    }

    /** Seven threads that are at seven kinds of instructions, none of which would need room. */
    private static void noInstructionIsBegun() {
        Check.sentence("A step is not begun with 2000 objects");
        JudgedCodes x = withMaker();
        Check.code(x, 0, 0, "", Check.RETURN, 0);
        Check.code(x, 0, 0, "", Check.CALL, 1, Check.RETURN, 0);
        Check.code(x, 0, 0, "", Check.JUMP, 0);
        Check.code(x, 0, 0, "", Check.PUSH, 0, Check.POP, 0, Check.RETURN, 0);
        Check.code(x, 0, 0, "", Check.GLOBAL, 0, Check.SET_GLOBAL, 0, Check.RETURN, 0);
        Check.code(x, 0, 0, "1", Check.LOAD, 0, Check.STORE, 0, Check.RETURN, 0);
        Check.code(x, 0, 0, "", Check.NULL, 0, Check.THROW, 0);
        made(x, 1999);
        for (int t = 1; t <= 7; t++) {
            Check.due("thread " + t, x.thread(t), t);
        }
        x.run(0, 1);
        for (int t = 1; t <= 7; t++) {
            Check.due("a step of thread " + t, x.run(t, 1), -12);
            Check.due("its steps", x.told(t, 0), 0);
            Check.due("its instruction", x.told(t, 4), 0);
        }
    }

    private static void madeByAFailure() {
        Check.sentence("at most 2000 (those of failures have the kinds 6 to 9");
        JudgedCodes x = withMaker();
        Check.code(x, 0, 0, "", Check.NULL, 0, Check.ENTER, 0, Check.RETURN, 0);
        made(x, 1999);
        x.thread(1);
        Check.due("a failure makes the last object", x.run(1, 2), 2);
        Check.due("its number", x.told(1, 2), 2000);
        Check.due("its kind", x.object(2000, 0), 6);
        Check.due("no step more", x.run(0, 1), -12);
        Check.due("the failed thread has ended", x.run(1, 1), 2);
    }

    private static void answersOfOthers() {
        Check.sentence("1 it has ended, 2 it was ended by a failure, 3 it waits; -14; -12 no step is begun");
        JudgedCodes x = withMaker();
        Check.code(x, 0, 0, "", Check.RETURN, 0);
        Check.code(x, 0, 0, "", Check.NEW, 1, Check.DUP, 0, Check.SET_GLOBAL, 0, Check.ENTER, 0, Check.JUMP, 4);
        Check.code(x, 0, 0, "", Check.GLOBAL, 0, Check.ENTER, 0, Check.RETURN, 0);
        made(x, 0);
        x.thread(1);
        x.thread(2);
        x.thread(3);
        x.run(1, 1);
        x.run(2, 9);
        x.run(3, 9);
        Check.due("the maker", x.run(0, 10000), -12);
        Check.due("an ended one", x.run(1, 1), 1);
        Check.due("one that may go on", x.run(2, 1), -12);
        Check.due("one that waits", x.run(3, 1), 3);
        Check.due("one that may go on, no step", x.run(2, 0), 0);
        Check.due("one that is not there", x.run(4, 1), -14);
        Check.due("too many steps", x.run(0, 10001), -14);
    }

    private static void threadsMayBegin() {
        Check.sentence("A step is not begun with 2000 objects");
        JudgedCodes x = made(withMaker(), 1999);
        x.run(0, 1);
        Check.due("a thread begins without room", x.thread(MAKER), 1);
        Check.due("but does no step", x.run(1, 1), -12);
    }

    /** Objects of many lives, of which less than 2000 are there, up to so many. */
    private static JudgedCodes madeForLife(JudgedCodes x, int objects) {
        for (int left = objects; left > 0; left -= 1000) {
            made(x, Math.min(left, 1000));
            x.reset();
        }
        return x;
    }

    private static void forLife() {
        Check.sentence("or when 40000 were made for life");
        JudgedCodes x = made(madeForLife(withMaker(), 39998), 1);
        Check.due("objects of this life", x.object(1, 0), KIND);
        Check.due("a step when 39999 were made", x.run(0, 1), 0);
        Check.due("the 40000th is the second of this life", x.object(2, 0), KIND);
        Check.due("a step when 40000 were made", x.run(0, 1), -12);
        Check.due("its steps", x.told(0, 0), 4);
        x.reset();
        x.thread(MAKER);
        Check.due("a step behind a reset", x.run(0, 1), -12);
        Check.due("no step", x.run(0, 0), 0);
        Check.due("no object", x.object(1, 0), -14);
    }

    private static void failuresForLife() {
        Check.sentence("or when 40000 were made for life");
        JudgedCodes x = withMaker();
        Check.code(x, 0, 0, "", Check.NULL, 0, Check.THROW, 0, Check.POP, 0, Check.JUMP, 0);
        x.row(0, 2, 2, 6);
        madeForLife(x, 39000);
        x.thread(1);
        Check.due("failures make objects", x.run(0, 4 * 999), 0);
        Check.due("the 39999th", x.object(999, 0), 6);
        Check.due("the last failure", x.run(0, 2), 0);
        Check.due("the 40000th", x.object(1000, 0), 6);
        Check.due("a step when 40000 were made", x.run(0, 1), -12);
    }

    private static void roomBehindAReset() {
        Check.sentence("No threads and no objects, globals null");
        JudgedCodes x = withMaker();
        for (int life = 0; life < 2; life++) {
            made(x, 1999);
            x.run(0, 1);
            Check.due("no room", x.run(0, 1), -12);
            x.reset();
        }
    }
}
