/** Promises 1 to 5: a test for each sentence that names an edge (too few, too many, full, a refused call). */
public final class EdgesOfTellingTest {
    private static final int[] NO_RESULT_KINDS = {-1, 3, Check.MIN, Check.MAX};
    private static final int[] NO_LOCAL_KINDS = {-1, 0, 3, Check.MIN, Check.MAX};
    private static final int[] NO_PARAMETERS = {-1, 9, Check.MIN, Check.MAX};
    private static final int[] NO_OPS = {-1, 27, Check.MIN, Check.MAX};
    private static final int[] NO_PLACES = {-1, 61, Check.MIN, Check.MAX};
    private static final int[] NO_ROW_KINDS = {-1, 11, Check.MIN, Check.MAX};

    public static void main(String[] args) {
        noCodesNoThreads();
        fortyCodes();
        parametersOfCodes();
        resultsOfCodes();
        codesWhileThereAreThreads();
        refusedCodes();
        closedByTheNextCode();
        closedByAThread();
        noneIsOpen();
        eightLocals();
        kindsOfLocals();
        parametersAreToldAsLocals();
        sixtyInstructions();
        opsOfInstructions();
        operandsWithBounds();
        operandsWithoutBounds();
        twentyRows();
        placesOfRows();
        kindsOfRows();
        refusedRowsAreNone();
        Check.end();
    }

    private static JudgedCodes withOpenCode() {
        JudgedCodes x = new JudgedCodes();
        Check.due("code(0, 0)", x.code(0, 0), 0);
        return x;
    }

    /** An object with forty codes, the last of them open. */
    private static JudgedCodes withFortyCodes() {
        JudgedCodes x = new JudgedCodes();
        for (int i = 0; i < 40; i++) {
            Check.due("code " + i, x.code(0, 0), i);
        }
        return x;
    }

    private static void noCodesNoThreads() {
        Check.sentence("No codes, no threads.");
        JudgedCodes used = new JudgedCodes();
        Check.code(used, 0, 0, "", Check.NEW, 0, Check.SET_GLOBAL, 0, Check.RETURN, 0);
        used.thread(0);
        used.run(0, 2);
        JudgedCodes x = new JudgedCodes();
        Check.due("judge(0)", x.judge(0), -14);
        Check.due("thread(0)", x.thread(0), -14);
        Check.due("run(0, 0)", x.run(0, 0), -14);
        Check.due("told(0, 0)", x.told(0, 0), -14);
        Check.due("value(0, 0)", x.value(0, 0), 0);
        Check.due("object(1, 0)", x.object(1, 0), -14);
        Check.due("global(0)", x.global(0), 0);
        Check.due("stuck()", x.stuck(), 0);
        Check.due("the first code", x.code(0, 0), 0);
        Check.due("the used one has its code", used.judge(0), 1);
    }

    private static void fortyCodes() {
        Check.sentence("There are up to 40 CODES, numbered from 0");
        JudgedCodes x = withFortyCodes();
        Check.due("judge(39)", x.judge(39), 0);
        Check.sentence("-12 there are 40.");
        Check.due("a 41st code", x.code(0, 0), -12);
        Check.due("a 41st code again", x.code(8, 2), -12);
        Check.due("judge(40)", x.judge(40), -14);
        x.reset();
        Check.due("a 41st code behind a reset", x.code(0, 0), -12);
    }

    private static void parametersOfCodes() {
        Check.sentence("-1 parameters not 0 .. 8");
        JudgedCodes x = new JudgedCodes();
        for (int parameters : NO_PARAMETERS) {
            Check.due("code(" + parameters + ", 0)", x.code(parameters, 0), -1);
        }
        for (int parameters = 0; parameters <= 8; parameters++) {
            Check.due("code(" + parameters + ", 0)", x.code(parameters, 0), parameters);
        }
    }

    private static void resultsOfCodes() {
        Check.sentence("or no such kind");
        JudgedCodes x = new JudgedCodes();
        for (int result : NO_RESULT_KINDS) {
            Check.due("code(0, " + result + ")", x.code(0, result), -1);
        }
        for (int result = 0; result <= 2; result++) {
            Check.due("code(0, " + result + ")", x.code(0, result), result);
        }
    }

    private static void codesWhileThereAreThreads() {
        Check.sentence("or there are threads");
        JudgedCodes x = new JudgedCodes();
        Check.code(x, 0, 0, "", Check.RETURN, 0);
        Check.code(x, 0, 0, "", Check.NULL, 0, Check.THROW, 0);
        for (int c = 0; c < 2; c++) {
            x.thread(c);
            Check.due("code with a thread not begun to run", x.code(0, 0), -1);
            Check.due("the thread's end", x.run(0, 9), 1 + c);
            Check.due("code with an ended thread", x.code(0, 0), -1);
            x.reset();
        }
        Check.due("code behind a reset", x.code(0, 0), 2);
    }

    private static void refusedCodes() {
        Check.sentence("the latest code is OPEN");
        JudgedCodes x = withOpenCode();
        Check.due("a code with nine parameters", x.code(9, 0), -1);
        Check.due("the one before is open", x.add(Check.RETURN, 0), 0);
        Check.due("no number was used up", x.code(0, 0), 1);
        JudgedCodes y = withFortyCodes();
        y.add(Check.RETURN, 0);
        Check.due("a 41st code", y.code(0, 0), -12);
        Check.due("the 40th is open", y.local(1), 1);
        Check.due("and has what was told", y.judge(39), 1);
        Check.sentence("-1 parameters not 0 .. 8, or no such kind, or there are threads; -12 there are 40.");
        Check.due("a 41st code with nine parameters", y.code(9, 0), -1);
        Check.due("a 41st code of no such kind", y.code(0, 3), -1);
        y.thread(39);
        Check.due("a 41st code with a thread", y.code(0, 0), -1);
    }

    private static void closedByTheNextCode() {
        Check.sentence("and closed when another one begins");
        JudgedCodes x = withOpenCode();
        x.add(Check.RETURN, 0);
        x.code(1, 0);
        Check.due("an instruction is the new code's", x.add(Check.RETURN, 0), 0);
        Check.due("a local is the new code's", x.local(1), 1);
        Check.due("a row is the new code's", x.row(0, 0, 0, 0), 1);
        Check.due("the first code is as it was", x.judge(0), 1);
        Check.due("the new one is not", x.judge(1), 0);
    }

    private static void closedByAThread() {
        Check.sentence("and closed when another one begins, or a thread");
        JudgedCodes x = withOpenCode();
        x.add(Check.RETURN, 0);
        Check.due("thread(1) of no code", x.thread(1), -14);
        Check.due("a refused thread closes none", x.local(1), 1);
        Check.due("thread(0)", x.thread(0), 0);
        Check.due("an instruction", x.add(Check.RETURN, 0), -14);
        Check.due("a local", x.local(1), -14);
        Check.due("a row", x.row(0, 1, 0, 0), -14);
        Check.due("the code is as it was", x.judge(0), 1);
    }

    private static void noneIsOpen() {
        Check.sentence("-14 none is open");
        JudgedCodes x = new JudgedCodes();
        for (int i = 0; i < 2; i++) {
            Check.due("a local", x.local(1), -14);
            Check.due("a local of no such kind", x.local(3), -14);
            Check.due("an instruction", x.add(0, 0), -14);
            Check.due("an instruction of no such op", x.add(27, 0), -14);
            Check.due("a row", x.row(0, 1, 0, 0), -14);
            Check.due("a row of no such place", x.row(-1, 1, 0, 0), -14);
            x.code(0, 0);
            tellAll(x);
            x.reset();
        }
    }

    /** As many locals, instructions and rows as an open code takes. */
    private static void tellAll(JudgedCodes x) {
        for (int i = 0; i < 60; i++) {
            Check.due("instruction " + i, x.add(Check.RETURN, 0), i);
            if (i < 20) {
                Check.due("row " + i, x.row(0, 1, 0, 0), i + 1);
            }
            if (i < 8) {
                Check.due("local " + i, x.local(1), i + 1);
            }
        }
    }

    private static void eightLocals() {
        Check.sentence("One more local of the open code, of kind 1 or 2: how many. ... -12 there are 8.");
        JudgedCodes x = new JudgedCodes();
        for (int c = 0; c < 2; c++) {
            x.code(8 * c, 0);
            for (int i = 1; i <= 8; i++) {
                Check.due("local " + i, x.local(1 + c), i);
            }
            Check.due("a ninth local", x.local(1), -12);
            Check.due("a ninth local again", x.local(2), -12);
            for (int kind : NO_LOCAL_KINDS) {
                Check.due("a ninth local of no such kind", x.local(kind), -1);
            }
        }
    }

    private static void kindsOfLocals() {
        Check.sentence("-1 no such kind");
        JudgedCodes x = withOpenCode();
        for (int kind : NO_LOCAL_KINDS) {
            Check.due("local(" + kind + ")", x.local(kind), -1);
        }
        Check.due("a refused local does not count", x.local(1), 1);
        Check.due("the other kind", x.local(2), 2);
    }

    private static void parametersAreToldAsLocals() {
        Check.sentence("its locals are told by local()");
        JudgedCodes x = new JudgedCodes();
        x.code(8, 0);
        Check.due("the first local, with eight parameters", x.local(1), 1);
    }

    private static void sixtyInstructions() {
        Check.sentence("One more instruction of the open code: its number. ... -12 there are 60.");
        JudgedCodes x = new JudgedCodes();
        for (int c = 0; c < 2; c++) {
            x.code(0, 0);
            for (int i = 0; i < 60; i++) {
                Check.due("instruction " + i, x.add(Check.JUMP, i), i);
            }
            Check.due("all of them are there", x.judge(c), 1);
            Check.due("a 61st instruction", x.add(Check.PUSH, 0), -12);
            Check.due("a 61st instruction again", x.add(Check.RETURN, 0), -12);
            Check.due("a 61st of no such op", x.add(27, 0), -1);
            Check.due("a 61st of no such field", x.add(Check.GET, 4), -1);
            Check.due("nothing else was told", x.judge(c), 1);
        }
    }

    private static void opsOfInstructions() {
        Check.sentence("-1 no such op");
        JudgedCodes x = withOpenCode();
        for (int op : NO_OPS) {
            Check.due("add(" + op + ", 0)", x.add(op, 0), -1);
        }
        Check.due("the least op, and a refused one does not count", x.add(0, 0), 0);
        Check.due("the last op", x.add(26, 0), 1);
    }

    private static void operandsWithBounds() {
        Check.sentence("-1 no such op, or field, kind or global a");
        bounded(Check.NEW, 0, 9);
        bounded(Check.IS, 0, 9);
        bounded(Check.GET, 0, 3);
        bounded(Check.PUT, 0, 3);
        bounded(Check.REF_GET, 4, 7);
        bounded(Check.REF_PUT, 4, 7);
        bounded(Check.GLOBAL, 0, 3);
        bounded(Check.SET_GLOBAL, 0, 3);
    }

    private static void bounded(int op, int least, int most) {
        JudgedCodes x = withOpenCode();
        int[] outside = {least - 1, most + 1, Check.MIN, Check.MAX};
        for (int a : outside) {
            Check.due("add(" + op + ", " + a + ")", x.add(op, a), -1);
        }
        for (int a = least; a <= most; a++) {
            Check.due("add(" + op + ", " + a + ")", x.add(op, a), a - least);
        }
    }

    /** Locals, places and codes that are named may be told later; the others need no a. */
    private static void operandsWithoutBounds() {
        Check.sentence("locals and codes that are named are there (any code told when it is judged)");
        int[] free = {Check.PUSH, Check.NULL, Check.POP, Check.DUP, Check.ADD, Check.SUB, Check.MUL, Check.DIV,
                Check.LESS, Check.LOAD, Check.STORE, Check.JUMP, Check.ZERO, Check.NONE, Check.CALL, Check.THROW,
                Check.ENTER, Check.LEAVE, Check.RETURN};
        int[] far = {-1, 60, Check.MIN, Check.MAX};
        for (int op : free) {
            JudgedCodes x = withOpenCode();
            for (int i = 0; i < far.length; i++) {
                Check.due("add(" + op + ", " + far[i] + ")", x.add(op, far[i]), i);
            }
        }
    }

    private static void twentyRows() {
        Check.sentence("One more row of the open code: how many. ... -12 there are 20.");
        JudgedCodes x = new JudgedCodes();
        for (int c = 0; c < 2; c++) {
            x.code(0, 0);
            for (int i = 1; i <= 20; i++) {
                Check.due("row " + i, x.row(0, 1, 1, 10), i);
            }
            Check.due("a 21st row", x.row(0, 1, 1, 10), -12);
            Check.due("a 21st row again", x.row(0, 1, 1, 0), -12);
            Check.due("a 21st of no such place", x.row(0, 61, 1, 10), -1);
            Check.due("a 21st of no such kind", x.row(0, 1, 1, 11), -1);
        }
    }

    private static void placesOfRows() {
        Check.sentence("-1 a place below 0 or above 60");
        JudgedCodes x = withOpenCode();
        for (int place : NO_PLACES) {
            Check.due("its first place " + place, x.row(place, 60, 60, 0), -1);
            Check.due("its second place " + place, x.row(0, place, 60, 0), -1);
            Check.due("its third place " + place, x.row(0, 60, place, 0), -1);
        }
        Check.due("the least places, and a refused row does not count", x.row(0, 0, 0, 0), 1);
        Check.due("the last places", x.row(60, 60, 60, 0), 2);
        Check.due("places in no order", x.row(60, 0, 30, 0), 3);
    }

    private static void kindsOfRows() {
        Check.sentence("or no such kind");
        JudgedCodes x = withOpenCode();
        for (int kind : NO_ROW_KINDS) {
            Check.due("row(0, 1, 2, " + kind + ")", x.row(0, 1, 2, kind), -1);
        }
        for (int kind = 0; kind <= 10; kind++) {
            Check.due("row(0, 1, 2, " + kind + ")", x.row(0, 1, 2, kind), kind + 1);
        }
    }

    /** Each refused row would make the code one that is not good. */
    private static void refusedRowsAreNone() {
        Check.sentence("-1 a place below 0 or above 60, or no such kind");
        JudgedCodes x = withOpenCode();
        x.add(Check.RETURN, 0);
        x.row(-1, 1, 0, 0);
        x.row(0, 61, 0, 0);
        x.row(0, 1, 61, 0);
        x.row(0, 1, 0, 11);
        Check.due("judge(0) with refused rows", x.judge(0), 1);
        x.row(0, 1, 0, 10);
        Check.due("judge(0) with a row", x.judge(0), 0);
    }
}
