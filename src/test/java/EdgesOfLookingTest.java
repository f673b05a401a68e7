/** Promises 9 to 12: a test for each sentence that names an edge. */
public final class EdgesOfLookingTest {
    public static void main(String[] args) {
        toldOfNoThread();
        toldOfNothingKnown();
        outcomes();
        outcomesLikeRefusals();
        noneOnTop();
        lastCodeAndInstruction();
        upToTwelveValues();
        valuesOfTheTopFrame();
        waitsForNone();
        noSuchObject();
        nothingKnownOfAnObject();
        fieldsOfAnObject();
        monitorOfAnObject();
        valuesThatAreNotThere();
        localsThatAreNotThere();
        valuesOfNoThread();
        globals();
        Check.end();
    }

    private static void toldOfNoThread() {
        Check.sentence("Of thread t: ... -14.");
        JudgedCodes x = new JudgedCodes();
        Check.code(x, 0, 0, "", Check.RETURN, 0);
        Check.due("told(0, 0) without threads", x.told(0, 0), -14);
        x.thread(0);
        int[] none = {-1, 1, 7, 8, Check.MIN, Check.MAX};
        for (int t : none) {
            for (int what = -1; what <= 7; what++) {
                Check.due("told(" + t + ", " + what + ")", x.told(t, what), -14);
            }
        }
    }

    private static void toldOfNothingKnown() {
        Check.sentence("Of thread t: ... -14.");
        JudgedCodes x = new JudgedCodes();
        Check.code(x, 0, 0, "", Check.RETURN, 0);
        x.thread(0);
        for (int i = 0; i < 2; i++) {
            int[] none = {-1, 7, 8, Check.MIN, Check.MAX};
            for (int what : none) {
                Check.due("told(0, " + what + ")", x.told(0, what), -14);
            }
            x.run(0, 1);
        }
    }

    private static void outcomes() {
        Check.sentence("what it ended with: an int or an object's number, 0 for null, none or not yet (2)");
        JudgedCodes x = new JudgedCodes();
        Check.code(x, 0, 1, "", Check.PUSH, 9, Check.RETURN, 0);
        x.thread(0);
        x.run(0, 1);
        Check.due("not yet", x.told(0, 2), 0);
        x.run(0, 1);
        Check.due("an int", x.told(0, 2), 9);
        Check.due("null", Check.outcome(2, "", Check.NEW, 0, Check.POP, 0, Check.NULL, 0, Check.RETURN, 0), 0);
        Check.due("none", Check.outcome(0, "", Check.NEW, 0, Check.POP, 0, Check.RETURN, 0), 0);
        Check.due("an object", Check.outcome(2, "", Check.NEW, 0, Check.POP, 0, Check.NEW, 0, Check.RETURN, 0), 2);
        JudgedCodes y = Check.ran(1, "", Check.NEW, 0, Check.POP, 0, Check.NEW, 0, Check.THROW, 0);
        Check.due("what it threw", y.told(0, 2), 2);
        JudgedCodes z = Check.ran(1, "", Check.NEW, 0, Check.POP, 0, Check.PUSH, 7, Check.PUSH, 0, Check.DIV, 0,
                Check.RETURN, 0);
        Check.due("the object of a failure", z.told(0, 2), 2);
    }

    private static void outcomesLikeRefusals() {
        Check.sentence("what it ended with: an int");
        int[] all = {-1, -12, -14, Check.MIN, Check.MAX};
        for (int value : all) {
            Check.due("an int", Check.outcome(1, "", Check.PUSH, value, Check.RETURN, 0), value);
        }
    }

    private static void noneOnTop() {
        Check.sentence("the code on top, -1 none (3), the instruction at hand, -1 none (4), "
                + "how many values are there (5)");
        JudgedCodes x = Check.ran(1, "1", Check.PUSH, 3, Check.DUP, 0, Check.STORE, 0, Check.RETURN, 0);
        JudgedCodes y = Check.ran(1, "1", Check.PUSH, 3, Check.STORE, 0, Check.PUSH, 3, Check.NULL, 0, Check.THROW, 0);
        JudgedCodes[] ended = {x, y};
        for (JudgedCodes z : ended) {
            Check.due("frames", z.told(0, 1), 0);
            Check.due("the code", z.told(0, 3), -1);
            Check.due("the instruction", z.told(0, 4), -1);
            Check.due("values", z.told(0, 5), 0);
            Check.due("a value", z.value(0, 0), 0);
            Check.due("a local", z.value(0, -1), 0);
        }
    }

    private static void lastCodeAndInstruction() {
        Check.sentence("the code on top, -1 none (3), the instruction at hand, -1 none (4)");
        JudgedCodes x = new JudgedCodes();
        for (int c = 0; c < 39; c++) {
            x.code(0, 0);
        }
        x.code(0, 0);
        x.add(Check.JUMP, 59);
        for (int i = 1; i < 59; i++) {
            x.add(Check.JUMP, i);
        }
        x.add(Check.RETURN, 0);
        Check.due("thread(39)", x.thread(39), 0);
        Check.due("the code at first", x.told(0, 3), 39);
        Check.due("the instruction at first", x.told(0, 4), 0);
        x.run(0, 1);
        Check.due("the last instruction", x.told(0, 4), 59);
        Check.due("the end", x.run(0, 1), 1);
    }

    /** A thread with twelve values, 101 to 112, and eight locals, 201 to 208. */
    private static JudgedCodes withTwelveValues() {
        JudgedCodes x = new JudgedCodes();
        Check.code(x, 0, 0, "11111111");
        for (int i = 0; i < 8; i++) {
            x.add(Check.PUSH, 201 + i);
            x.add(Check.STORE, i);
        }
        for (int i = 0; i < 12; i++) {
            x.add(Check.PUSH, 101 + i);
        }
        for (int i = 0; i < 12; i++) {
            x.add(Check.POP, 0);
        }
        x.add(Check.RETURN, 0);
        Check.due("thread(0)", x.thread(0), 0);
        x.run(0, 16);
        return x;
    }

    private static void upToTwelveValues() {
        Check.sentence("how many values are there (5)");
        JudgedCodes x = withTwelveValues();
        for (int i = 0; i <= 12; i++) {
            Check.due("values", x.told(0, 5), i);
            x.run(0, 1);
        }
        Check.due("one was popped", x.told(0, 5), 11);
    }

    private static void valuesOfTheTopFrame() {
        Check.sentence("Value k from the top (0) of the frame on top of thread t");
        JudgedCodes x = new JudgedCodes();
        Check.code(x, 0, 1, "11", Check.PUSH, 5, Check.STORE, 1, Check.PUSH, 6, Check.PUSH, 7, Check.CALL, 1,
                Check.ADD, 0, Check.RETURN, 0);
        Check.code(x, 1, 1, "1", Check.PUSH, 8, Check.RETURN, 0);
        x.thread(0);
        x.run(0, 5);
        Check.due("values of the called one", x.told(0, 5), 0);
        Check.due("none of the caller's", x.value(0, 0), 0);
        Check.due("its parameter", x.value(0, -1), 7);
        Check.due("no local of the caller's", x.value(0, -2), 0);
        x.run(0, 2);
        Check.due("values of the caller", x.told(0, 5), 2);
        Check.due("the result", x.value(0, 0), 8);
        Check.due("what was below", x.value(0, 1), 6);
        Check.due("the parameter was taken", x.value(0, 2), 0);
        Check.due("the caller's local", x.value(0, -2), 5);
    }

    private static void waitsForNone() {
        Check.sentence("the object whose monitor it waits for, 0 none (6)");
        JudgedCodes x = new JudgedCodes();
        Check.code(x, 0, 0, "", Check.NEW, 0, Check.POP, 0, Check.NEW, 0, Check.DUP, 0, Check.SET_GLOBAL, 0,
                Check.ENTER, 0, Check.GLOBAL, 0, Check.LEAVE, 0, Check.RETURN, 0);
        Check.code(x, 0, 0, "", Check.GLOBAL, 0, Check.ENTER, 0, Check.RETURN, 0);
        x.thread(0);
        x.thread(1);
        Check.due("a thread that did no step", x.told(1, 6), 0);
        x.run(0, 6);
        Check.due("the holder", x.told(0, 6), 0);
        x.run(1, 1);
        Check.due("not yet at its enter's step", x.told(1, 6), 0);
        x.run(1, 1);
        Check.due("it waits", x.told(1, 6), 2);
        x.run(0, 2);
        Check.due("the monitor was left", x.told(1, 6), 0);
        x.run(1, 1);
        Check.due("it was entered", x.told(1, 6), 0);
        x.run(1, 1);
        Check.due("an ended thread", x.told(1, 6), 0);
    }

    private static void noSuchObject() {
        Check.sentence("Of object o: ... -14.");
        JudgedCodes x = Check.ran(0, "", Check.NEW, 3, Check.POP, 0, Check.NEW, 4, Check.POP, 0, Check.RETURN, 0);
        Check.due("object(1, 0)", x.object(1, 0), 3);
        Check.due("object(2, 0)", x.object(2, 0), 4);
        int[] none = {-1, 0, 3, 1999, 2000, 2001, Check.MIN, Check.MAX};
        for (int o : none) {
            int[] whats = {0, 1, 2, 10, 17};
            for (int what : whats) {
                Check.due("object(" + o + ", " + what + ")", x.object(o, what), -14);
            }
        }
    }

    private static void nothingKnownOfAnObject() {
        Check.sentence("field 0 .. 7 by 10 .. 17; -14.");
        JudgedCodes x = Check.ran(0, "", Check.NEW, 3, Check.POP, 0, Check.RETURN, 0);
        int[] none = {-1, 3, 4, 8, 9, 18, 19, Check.MIN, Check.MAX};
        for (int what : none) {
            Check.due("object(1, " + what + ")", x.object(1, what), -14);
        }
    }

    private static void fieldsOfAnObject() {
        Check.sentence("with a kind, 8 fields (0), and a monitor");
        JudgedCodes x = new JudgedCodes();
        Check.code(x, 0, 0, "2", Check.NEW, 9, Check.STORE, 0);
        for (int i = 0; i < 4; i++) {
            x.add(Check.LOAD, 0);
            x.add(Check.PUSH, -14 - i);
            x.add(Check.PUT, i);
            x.add(Check.LOAD, 0);
            x.add(Check.NEW, i);
            x.add(Check.REF_PUT, 4 + i);
        }
        x.add(Check.RETURN, 0);
        x.thread(0);
        x.run(0, 2);
        for (int i = 0; i < 8; i++) {
            Check.due("field " + i + " at first", x.object(1, 10 + i), 0);
        }
        x.run(0, 99);
        for (int i = 0; i < 4; i++) {
            Check.due("field " + i, x.object(1, 10 + i), -14 - i);
            Check.due("field " + (4 + i), x.object(1, 14 + i), 2 + i);
        }
    }

    private static void monitorOfAnObject() {
        Check.sentence("the thread that holds its monitor, -1 none (1), how often (2)");
        JudgedCodes x = new JudgedCodes();
        Check.code(x, 0, 0, "", Check.NEW, 0, Check.DUP, 0, Check.DUP, 0, Check.DUP, 0, Check.ENTER, 0,
                Check.ENTER, 0, Check.LEAVE, 0, Check.LEAVE, 0, Check.JUMP, 8);
        for (int t = 0; t < 8; t++) {
            x.thread(0);
        }
        x.run(7, 4);
        int[] holder = {-1, 7, 7, 7, -1};
        int[] often = {0, 1, 2, 1, 0};
        for (int i = 0; i < holder.length; i++) {
            Check.due("the holder", x.object(1, 1), holder[i]);
            Check.due("how often", x.object(1, 2), often[i]);
            x.run(7, 1);
        }
    }

    private static void valuesThatAreNotThere() {
        Check.sentence("0 if there is none");
        JudgedCodes x = withTwelveValues();
        Check.due("value(0, 0) of none", x.value(0, 0), 0);
        x.run(0, 12);
        for (int k = 0; k < 12; k++) {
            Check.due("value(0, " + k + ")", x.value(0, k), 112 - k);
        }
        Check.due("value(0, 12)", x.value(0, 12), 0);
        Check.due("value(0, 13)", x.value(0, 13), 0);
        Check.due("value of the most", x.value(0, Check.MAX), 0);
        x.run(0, 11);
        Check.due("the last one left", x.value(0, 0), 101);
        Check.due("one that was popped", x.value(0, 1), 0);
    }

    private static void localsThatAreNotThere() {
        Check.sentence("or, by k below 0, its local -1 - k; 0 if there is none");
        JudgedCodes x = withTwelveValues();
        for (int i = 0; i < 8; i++) {
            Check.due("local " + i, x.value(0, -1 - i), 201 + i);
        }
        Check.due("local 8", x.value(0, -9), 0);
        Check.due("local 9", x.value(0, -10), 0);
        Check.due("the local of the least k", x.value(0, Check.MIN), 0);
        Check.due("the local before that", x.value(0, Check.MIN + 1), 0);
    }

    private static void valuesOfNoThread() {
        Check.sentence("0 if there is none");
        JudgedCodes x = withTwelveValues();
        x.run(0, 12);
        int[] none = {-1, 1, 7, 8, Check.MIN, Check.MAX};
        for (int t : none) {
            Check.due("value(" + t + ", 0)", x.value(t, 0), 0);
            Check.due("value(" + t + ", -1)", x.value(t, -1), 0);
        }
        x.run(0, 99);
        Check.due("a value of an ended thread", x.value(0, 0), 0);
        Check.due("a local of an ended thread", x.value(0, -1), 0);
    }

    private static void globals() {
        Check.sentence("The object in global i, 0 for null; -14.");
        JudgedCodes x = new JudgedCodes();
        Check.code(x, 0, 0, "", Check.NEW, 0, Check.SET_GLOBAL, 0, Check.NEW, 0, Check.SET_GLOBAL, 1, Check.NEW, 0,
                Check.SET_GLOBAL, 2, Check.NEW, 0, Check.SET_GLOBAL, 3, Check.NULL, 0, Check.SET_GLOBAL, 0,
                Check.NULL, 0, Check.SET_GLOBAL, 3, Check.RETURN, 0);
        x.thread(0);
        int[] want = {0, 0, 0, 0, 1, 0, 0, 0, 1, 2, 0, 0, 1, 2, 3, 0, 1, 2, 3, 4, 0, 2, 3, 4, 0, 2, 3, 0};
        for (int set = 0; set * 4 < want.length; set++) {
            for (int i = 0; i < 4; i++) {
                Check.due("global(" + i + ")", x.global(i), want[4 * set + i]);
            }
            x.run(0, 2);
        }
        int[] none = {-1, 4, Check.MIN, Check.MAX};
        for (int i : none) {
            Check.due("global(" + i + ")", x.global(i), -14);
        }
    }
}
