/** Promise 8: run, every instruction, failures, rows, and the room for objects. */
public final class RunningTest {
    private static final int MIN = Integer.MIN_VALUE;
    private static final int MAX = Integer.MAX_VALUE;

    public static void main(String[] args) {
        answers();
        arithmetic();
        values();
        jumps();
        objects();
        calls();
        failures();
        failuresTakeNothing();
        rowsInOrder();
        rowsCover();
        thrownThroughFrames();
        calledAgain();
        depth();
        room();
        roomForLife();
        Check.end();
    }

    private static void answers() {
        JudgedCodes x = new JudgedCodes();
        Check.code(x, 0, 1, "", Check.PUSH, 7, Check.RETURN, 0);
        x.thread(0);
        Check.due("run(-1, 1)", x.run(-1, 1), -14);
        Check.due("run(1, 1)", x.run(1, 1), -14);
        Check.due("run(0, -1)", x.run(0, -1), -14);
        Check.due("run(0, 10001)", x.run(0, 10001), -14);
        Check.due("run(0, 0)", x.run(0, 0), 0);
        Check.due("no step was done", x.told(0, 0), 0);
        Check.due("run(0, 1)", x.run(0, 1), 0);
        Check.due("run(0, 1) to the end", x.run(0, 1), 1);
        Check.due("run(0, 10000) of an ended thread", x.run(0, 10000), 1);
        Check.due("two steps", x.told(0, 0), 2);
        JudgedCodes y = new JudgedCodes();
        Check.code(y, 0, 0, "", Check.JUMP, 0);
        y.thread(0);
        Check.due("run(0, 10000)", y.run(0, 10000), 0);
        Check.due("ten thousand steps", y.told(0, 0), 10000);
    }

    private static void binary(int op, int lower, int upper, int want) {
        int got = Check.outcome(1, "", Check.PUSH, lower, Check.PUSH, upper, op, 0, Check.RETURN, 0);
        Check.due("op " + op + " of " + lower + " and " + upper, got, want);
    }

    private static void arithmetic() {
        binary(Check.ADD, 3, 4, 7);
        binary(Check.ADD, MAX, 1, MIN);
        binary(Check.SUB, 3, 4, -1);
        binary(Check.SUB, MIN, 1, MAX);
        binary(Check.MUL, -3, 4, -12);
        binary(Check.MUL, 65536, 65536, 0);
        binary(Check.MUL, MIN, -1, MIN);
        binary(Check.DIV, 7, 2, 3);
        binary(Check.DIV, -7, 2, -3);
        binary(Check.DIV, 0, 5, 0);
        binary(Check.DIV, 7, 1, 7);
        binary(Check.DIV, -7, -2, 3);
        binary(Check.DIV, MIN, -1, MIN);
        binary(Check.LESS, 3, 4, 1);
        binary(Check.LESS, 4, 3, 0);
        binary(Check.LESS, 4, 4, 0);
        binary(Check.LESS, MIN, MAX, 1);
        binary(Check.LESS, MAX, MIN, 0);
    }

    private static void values() {
        Check.due("dup", Check.outcome(1, "", Check.PUSH, 5, Check.DUP, 0, Check.MUL, 0, Check.RETURN, 0), 25);
        Check.due("pop", Check.outcome(1, "", Check.PUSH, 5, Check.PUSH, 6, Check.POP, 0, Check.RETURN, 0), 5);
        Check.due("null", Check.outcome(2, "", Check.NULL, 0, Check.RETURN, 0), 0);
        Check.due("a local at first", Check.outcome(1, "1", Check.LOAD, 0, Check.RETURN, 0), 0);
        Check.due("store and load", Check.outcome(1, "11", Check.PUSH, 5, Check.STORE, 1, Check.PUSH, 6,
                Check.STORE, 0, Check.LOAD, 1, Check.RETURN, 0), 5);
        Check.due("return of none", Check.outcome(0, "", Check.RETURN, 0), 0);
        Check.due("globals", Check.outcome(2, "", Check.NEW, 1, Check.SET_GLOBAL, 0, Check.NEW, 1, Check.SET_GLOBAL, 3,
                Check.GLOBAL, 3, Check.RETURN, 0), 2);
        Check.due("a global at first", Check.outcome(2, "", Check.GLOBAL, 2, Check.RETURN, 0), 0);
    }

    private static void jumps() {
        for (int n = -1; n <= 1; n++) {
            int got = Check.outcome(1, "", Check.PUSH, n, Check.ZERO, 4, Check.PUSH, 10, Check.RETURN, 0,
                    Check.PUSH, 20, Check.RETURN, 0);
            Check.due("zero of " + n, got, n == 0 ? 20 : 10);
        }
        Check.due("none of null", Check.outcome(1, "", Check.NULL, 0, Check.NONE, 4, Check.PUSH, 10, Check.RETURN, 0,
                Check.PUSH, 20, Check.RETURN, 0), 20);
        Check.due("none of an object", Check.outcome(1, "", Check.NEW, 0, Check.NONE, 4, Check.PUSH, 10, Check.RETURN,
                0, Check.PUSH, 20, Check.RETURN, 0), 10);
        Check.due("the sum of 1 .. 9", Check.outcome(1, "11",
                Check.LOAD, 0, Check.PUSH, 9, Check.LESS, 0, Check.ZERO, 13,
                Check.LOAD, 0, Check.PUSH, 1, Check.ADD, 0, Check.STORE, 0,
                Check.LOAD, 0, Check.LOAD, 1, Check.ADD, 0, Check.STORE, 1, Check.JUMP, 0,
                Check.LOAD, 1, Check.RETURN, 0), 45);
    }

    private static void objects() {
        for (int kind = 0; kind <= 9; kind++) {
            Check.due("is of the kind " + kind,
                    Check.outcome(1, "", Check.NEW, kind, Check.IS, kind, Check.RETURN, 0), 1);
            Check.due("is of another kind",
                    Check.outcome(1, "", Check.NEW, kind, Check.IS, (kind + 1) % 10, Check.RETURN, 0), 0);
            Check.due("null is of no kind", Check.outcome(1, "", Check.NULL, 0, Check.IS, kind, Check.RETURN, 0), 0);
        }
        Check.due("put and get", Check.outcome(1, "2", Check.NEW, 0, Check.STORE, 0, Check.LOAD, 0, Check.PUSH, 5,
                Check.PUT, 3, Check.LOAD, 0, Check.GET, 3, Check.RETURN, 0), 5);
        Check.due("a field at first", Check.outcome(1, "", Check.NEW, 0, Check.GET, 0, Check.RETURN, 0), 0);
        Check.due("a ref field at first", Check.outcome(2, "", Check.NEW, 0, Check.REF_GET, 4, Check.RETURN, 0), 0);
        JudgedCodes x = Check.ran(2, "2", Check.NEW, 0, Check.STORE, 0, Check.LOAD, 0, Check.NEW, 1, Check.REF_PUT, 6,
                Check.LOAD, 0, Check.REF_GET, 6, Check.RETURN, 0);
        Check.due("ref put and ref get", x.told(0, 2), 2);
        Check.due("the field of the lower one", x.object(1, 16), 2);
        Check.due("no field of the upper one", x.object(2, 16), 0);
        Check.due("ref put of null", Check.outcome(1, "", Check.NEW, 0, Check.NULL, 0, Check.REF_PUT, 4,
                Check.PUSH, 3, Check.RETURN, 0), 3);
    }

    private static void calls() {
        JudgedCodes x = new JudgedCodes();
        Check.code(x, 2, 1, "111", Check.LOAD, 0, Check.LOAD, 1, Check.SUB, 0, Check.LOAD, 2, Check.ADD, 0,
                Check.PUSH, 100, Check.STORE, 2, Check.RETURN, 0);
        Check.code(x, 0, 1, "", Check.PUSH, 10, Check.PUSH, 3, Check.CALL, 0, Check.PUSH, 20, Check.PUSH, 5,
                Check.CALL, 0, Check.MUL, 0, Check.RETURN, 0);
        Check.code(x, 1, 0, "1", Check.RETURN, 0);
        Check.code(x, 0, 1, "", Check.PUSH, 8, Check.PUSH, 9, Check.CALL, 2, Check.RETURN, 0);
        x.thread(1);
        Check.due("run to the call", x.run(0, 3), 0);
        Check.due("a second frame", x.told(0, 1), 2);
        Check.due("its code", x.told(0, 3), 0);
        Check.due("its instruction", x.told(0, 4), 0);
        Check.due("its values", x.told(0, 5), 0);
        Check.due("its locals", x.value(0, -1) * 100 + x.value(0, -2) * 10 + x.value(0, -3), 1030);
        Check.due("run to the return", x.run(0, 8), 0);
        Check.due("the frame below again", x.told(0, 1), 1);
        Check.due("behind the call", x.told(0, 4), 3);
        Check.due("with the result", x.value(0, 0), 7);
        Check.due("run to the end", x.run(0, 100), 1);
        Check.due("locals are new at each call", x.told(0, 2), 105);
        x.thread(3);
        Check.due("a call without a result", x.run(1, 100), 1);
        Check.due("leaves what is below its parameters", x.told(1, 2), 8);
    }

    private static void failures() {
        Check.due("div by 0", Check.failure(1, "", Check.PUSH, 1, Check.PUSH, 0, Check.DIV, 0, Check.RETURN, 0), 7);
        Check.due("get of null", Check.failure(1, "", Check.NULL, 0, Check.GET, 0, Check.RETURN, 0), 6);
        Check.due("put of null", Check.failure(0, "", Check.NULL, 0, Check.PUSH, 1, Check.PUT, 0, Check.RETURN, 0), 6);
        Check.due("ref get of null", Check.failure(2, "", Check.NULL, 0, Check.REF_GET, 4, Check.RETURN, 0), 6);
        Check.due("ref put of null",
                Check.failure(0, "", Check.NULL, 0, Check.NEW, 1, Check.REF_PUT, 4, Check.RETURN, 0), 6);
        Check.due("throw of null", Check.failure(0, "", Check.NULL, 0, Check.THROW, 0), 6);
        Check.due("enter of null", Check.failure(0, "", Check.NULL, 0, Check.ENTER, 0, Check.RETURN, 0), 6);
        Check.due("leave of null", Check.failure(0, "", Check.NULL, 0, Check.LEAVE, 0, Check.RETURN, 0), 6);
        Check.due("leave of what is not held",
                Check.failure(0, "", Check.NEW, 1, Check.LEAVE, 0, Check.RETURN, 0), 8);
        JudgedCodes x = Check.ran(0, "", Check.NEW, 3, Check.NEW, 4, Check.THROW, 0);
        Check.due("a thread ended by what it threw", x.run(0, 5), 2);
        Check.due("which is no new object", x.told(0, 2), 2);
        Check.due("nothing else was made", x.object(3, 0), -14);
        Check.due("the throw was a step", x.told(0, 0), 3);
    }

    private static void failuresTakeNothing() {
        JudgedCodes x = new JudgedCodes();
        Check.code(x, 0, 2, "", Check.PUSH, 4, Check.PUSH, 5, Check.PUSH, 0, Check.DIV, 0, Check.ADD, 0, Check.POP, 0,
                Check.NULL, 0, Check.RETURN, 0, Check.RETURN, 0);
        x.row(0, 8, 8, 7);
        x.thread(0);
        Check.due("run to the failure", x.run(0, 4), 0);
        Check.due("at the third place", x.told(0, 4), 8);
        Check.due("the object alone", x.told(0, 5), 1);
        Check.due("is the value", x.value(0, 0), 1);
        Check.due("it is returned", x.run(0, 9), 1);
        Check.due("with its number", x.told(0, 2), 1);
    }

    /** Rows 3 (kind 3), 4 (any), 3 again: where a thrown object of a kind goes on. */
    private static void rowsInOrder() {
        for (int kind = 2; kind <= 4; kind++) {
            JudgedCodes x = new JudgedCodes();
            Check.code(x, 0, 1, "", Check.NEW, kind, Check.THROW, 0,
                    Check.POP, 0, Check.PUSH, 30, Check.RETURN, 0,
                    Check.POP, 0, Check.PUSH, 40, Check.RETURN, 0,
                    Check.POP, 0, Check.PUSH, 50, Check.RETURN, 0);
            x.row(0, 2, 2, 3);
            x.row(0, 2, 5, 10);
            x.row(0, 2, 8, 4);
            x.thread(0);
            Check.due("a kind " + kind + " is taken", x.run(0, 99), 1);
            Check.due("by its row", x.told(0, 2), kind == 3 ? 30 : 40);
        }
    }

    /** A failure at instruction 1, with rows around it. */
    private static void rowsCover() {
        int[][] rows = {{0, 2, 1}, {1, 2, 1}, {0, 1, 0}, {2, 3, 0}, {1, 4, 1}, {2, 6, 0}, {0, 5, 1}};
        for (int[] row : rows) {
            JudgedCodes x = new JudgedCodes();
            Check.code(x, 0, 1, "", Check.CALL, 2, Check.CALL, 1, Check.CALL, 2, Check.CALL, 2, Check.JUMP, 0,
                    Check.POP, 0, Check.PUSH, 1, Check.RETURN, 0);
            x.row(row[0], row[1], 5, 10);
            Check.code(x, 0, 0, "", Check.NULL, 0, Check.THROW, 0);
            Check.code(x, 0, 0, "", Check.RETURN, 0);
            Check.due("it is good", x.thread(0), 0);
            boolean isTaken = row[2] == 1;
            Check.due("row " + row[0] + " .. " + row[1], x.run(0, 99), isTaken ? 1 : 2);
            Check.due("what it ended with", x.told(0, 2), 1);
        }
    }

    private static void thrownThroughFrames() {
        JudgedCodes x = new JudgedCodes();
        Check.code(x, 0, 2, "", Check.CALL, 1, Check.RETURN, 0, Check.RETURN, 0);
        x.row(0, 2, 2, 6);
        Check.code(x, 0, 2, "", Check.CALL, 2, Check.RETURN, 0, Check.RETURN, 0);
        x.row(0, 2, 2, 5);
        Check.code(x, 0, 2, "", Check.NULL, 0, Check.THROW, 0);
        x.thread(0);
        Check.due("three frames", x.run(0, 3) * 10 + x.told(0, 1), 3);
        Check.due("thrown in one step", x.run(0, 1) * 10 + x.told(0, 1), 1);
        Check.due("to the first frame's row", x.told(0, 4), 2);
        Check.due("as four steps", x.told(0, 0), 4);
        Check.due("the end", x.run(0, 1), 1);
    }

    /** A frame that a failure ended leaves no values to the next one. */
    private static void calledAgain() {
        JudgedCodes x = new JudgedCodes();
        Check.code(x, 0, 0, "", Check.CALL, 1, Check.RETURN, 0, Check.POP, 0, Check.JUMP, 0);
        x.row(0, 1, 2, 10);
        Check.code(x, 0, 0, "1", Check.PUSH, 8, Check.STORE, 0, Check.PUSH, 5, Check.NULL, 0, Check.THROW, 0);
        x.thread(0);
        x.run(0, 8);
        Check.due("once more at the call", x.told(0, 4), 0);
        x.run(0, 1);
        Check.due("in the called code", x.told(0, 3), 1);
        Check.due("without values", x.told(0, 5), 0);
        Check.due("with its local at first", x.value(0, -1), 0);
    }

    private static void depth() {
        JudgedCodes x = new JudgedCodes();
        Check.code(x, 0, 0, "", Check.CALL, 0, Check.RETURN, 0);
        x.thread(0);
        Check.due("29 calls", x.run(0, 29), 0);
        Check.due("30 frames", x.told(0, 1), 30);
        Check.due("one call more", x.run(0, 1), 2);
        Check.due("its failure", x.object(x.told(0, 2), 0), 9);
        Check.due("30 steps", x.told(0, 0), 30);
        Check.due("no frames", x.told(0, 1), 0);
        JudgedCodes y = new JudgedCodes();
        Check.code(y, 0, 1, "", Check.CALL, 0, Check.RETURN, 0, Check.POP, 0, Check.PUSH, 5, Check.RETURN, 0);
        y.row(0, 2, 2, 9);
        y.thread(0);
        Check.due("the failed call is covered", y.run(0, 30), 0);
        Check.due("in the frame on top", y.told(0, 1), 30);
        Check.due("and all return", y.run(0, 1000), 1);
        Check.due("with its value", y.told(0, 2), 5);
    }

    private static void room() {
        JudgedCodes x = new JudgedCodes();
        Check.code(x, 0, 0, "", Check.NEW, 5, Check.POP, 0, Check.JUMP, 0);
        Check.code(x, 0, 0, "", Check.RETURN, 0);
        Check.code(x, 0, 0, "", Check.NULL, 0, Check.THROW, 0);
        x.thread(0);
        x.thread(1);
        x.thread(1);
        x.thread(2);
        Check.due("an end while there is room", x.run(1, 1), 1);
        Check.due("to the first step of a failure", x.run(3, 1), 0);
        Check.due("1998 objects", x.run(0, 3 * 1998), 0);
        Check.due("a failure makes one as well", x.run(3, 1), 2);
        Check.due("up to 2000", x.run(0, 1), 0);
        Check.due("object 1999", x.object(1999, 0), 6);
        Check.due("object 2000", x.object(2000, 0), 5);
        Check.due("object 2001", x.object(2001, 0), -14);
        Check.due("no step is begun", x.run(0, 1), -12);
        Check.due("it was not counted", x.told(0, 0), 3 * 1998 + 1);
        Check.due("no step is asked for", x.run(0, 0), 0);
        Check.due("nor is a step of another one begun", x.run(2, 1), -12);
        Check.due("an ended one has ended", x.run(1, 5), 1);
        Check.due("one ended by a failure too", x.run(3, 5), 2);
        x.reset();
        x.thread(0);
        Check.due("in one go", x.run(0, 10000), -12);
        Check.due("its steps", x.told(0, 0), 3 * 1999 + 1);
    }

    private static void roomForLife() {
        JudgedCodes x = new JudgedCodes();
        Check.code(x, 0, 0, "", Check.NEW, 5, Check.POP, 0, Check.JUMP, 0);
        for (int i = 0; i < 20; i++) {
            x.thread(0);
            Check.due("the first step of life " + i, x.run(0, 1), 0);
            Check.due("all of life " + i, x.run(0, 10000), -12);
            Check.due("objects of life " + i, x.object(2000, 0), 5);
            x.reset();
        }
        x.thread(0);
        Check.due("a step when 40000 were made", x.run(0, 1), -12);
        Check.due("no object", x.object(1, 0), -14);
    }
}
