/** Promise 6: judge. */
public final class JudgingTest {
    public static void main(String[] args) {
        numbers();
        kindsOfEveryInstruction();
        tooManyValues();
        ends();
        jumps();
        places();
        rowPlaces();
        takers();
        calls();
        parameters();
        judgedInTurn();
        returns();
        Check.end();
    }

    private static void good(String what, int got) {
        Check.due(what + " is good:", got, 1);
    }

    private static void bad(String what, int got) {
        Check.due(what + " is not good:", got, 0);
    }

    private static void numbers() {
        JudgedCodes x = new JudgedCodes();
        x.code(0, 0);
        Check.due("judge(-1)", x.judge(-1), -14);
        Check.due("judge(1)", x.judge(1), -14);
        Check.due("judge(0) of an empty code", x.judge(0), 0);
        x.add(Check.RETURN, 0);
        Check.due("judge(0) of the open code", x.judge(0), 1);
        x.add(Check.RETURN, 0);
        Check.due("judge(0) once more is told", x.judge(0), 0);
    }

    /** Each instruction on ints (1) and refs (2), as they lie from below to the top. */
    private static void kindsOfEveryInstruction() {
        String[] stacks = {"", "1", "2", "11", "12", "21", "22"};
        for (String stack : stacks) {
            for (int op = 0; op <= 26; op++) {
                String left = after(op, stack);
                if (left != null) {
                    Check.due("op " + op + " on " + stack, judgedBehind(op, stack, left, false), 1);
                    Check.due("op " + op + " on " + stack + ", other kinds", judgedBehind(op, stack, left, true), 0);
                } else if (op != Check.JUMP && op != Check.THROW && op != Check.RETURN) {
                    Check.due("op " + op + " on " + stack, judgedBehind(op, stack, "", false), 0);
                }
            }
        }
    }

    /** What an instruction that goes on leaves, or null if it does not fit. */
    private static String after(int op, String s) {
        String below = s.isEmpty() ? "" : s.substring(0, s.length() - 1);
        boolean onInt = s.endsWith("1");
        boolean onRef = s.endsWith("2");
        return switch (op) {
            case Check.PUSH, Check.LOAD -> s + "1";
            case Check.NULL, Check.NEW, Check.GLOBAL -> s + "2";
            case Check.POP -> s.isEmpty() ? null : below;
            case Check.DUP -> s.isEmpty() ? null : s + s.charAt(s.length() - 1);
            case Check.ADD, Check.SUB, Check.MUL, Check.DIV, Check.LESS -> s.equals("11") ? "1" : null;
            case Check.STORE -> onInt ? below : null;
            case Check.ENTER, Check.LEAVE, Check.SET_GLOBAL -> onRef ? below : null;
            case Check.IS, Check.GET -> onRef ? below + "1" : null;
            case Check.REF_GET -> onRef ? s : null;
            case Check.PUT -> s.equals("21") ? "" : null;
            case Check.REF_PUT -> s.equals("22") ? "" : null;
            case Check.ZERO -> s.equals("1") ? "" : null;
            case Check.NONE -> s.equals("2") ? "" : null;
            case Check.CALL -> s;
            default -> null;
        };
    }

    /** Pushes a stack, does the instruction, and stores what is left by its kinds (or by the others). */
    private static int judgedBehind(int op, String stack, String left, boolean asOthers) {
        JudgedCodes x = new JudgedCodes();
        Check.code(x, 0, 0, "", Check.RETURN, 0);
        Check.code(x, 0, 0, "12");
        for (int i = 0; i < stack.length(); i++) {
            x.add(stack.charAt(i) == '1' ? Check.PUSH : Check.NULL, 0);
        }
        boolean isRefField = op == Check.REF_GET || op == Check.REF_PUT;
        x.add(op, isRefField ? 5 : op == Check.ZERO || op == Check.NONE ? stack.length() + 1 : 0);
        for (int i = left.length() - 1; i >= 0; i--) {
            boolean isInt = left.charAt(i) == '1';
            x.add(Check.STORE, isInt != asOthers ? 0 : 1);
        }
        if (left.isEmpty() && asOthers) {
            x.add(Check.POP, 0);
        }
        x.add(Check.RETURN, 0);
        return x.judge(1);
    }

    private static int judgedAfterPushes(int pushes, int op, int a) {
        JudgedCodes x = new JudgedCodes();
        Check.code(x, 0, 0, "", Check.RETURN, 0);
        Check.code(x, 0, 1, "", Check.PUSH, 0, Check.RETURN, 0);
        Check.code(x, 0, 0, "1");
        for (int i = 0; i < pushes; i++) {
            x.add(Check.PUSH, i);
        }
        x.add(op, a);
        x.add(Check.NULL, 0);
        x.add(Check.THROW, 0);
        return x.judge(2);
    }

    private static void tooManyValues() {
        good("a twelfth value", judgedAfterPushes(10, Check.PUSH, 0));
        bad("a thirteenth value", judgedAfterPushes(11, Check.PUSH, 0));
        good("add at twelve", judgedAfterPushes(12, Check.ADD, 0));
        bad("push at twelve", judgedAfterPushes(12, Check.PUSH, 0));
        bad("dup at twelve", judgedAfterPushes(12, Check.DUP, 0));
        bad("load at twelve", judgedAfterPushes(12, Check.LOAD, 0));
        bad("a call with a result at twelve", judgedAfterPushes(12, Check.CALL, 1));
        good("a call with a result at ten", judgedAfterPushes(10, Check.CALL, 1));
        bad("a call without a result at twelve, and a null", judgedAfterPushes(12, Check.CALL, 0));
        good("a call without a result at eleven, and a null", judgedAfterPushes(11, Check.CALL, 0));
    }

    private static void ends() {
        bad("a code that ends with push", Check.judged(0, "", Check.PUSH, 1));
        bad("a code that ends with a zero jump", Check.judged(0, "", Check.PUSH, 1, Check.ZERO, 0));
        good("a code that ends with jump", Check.judged(0, "", Check.JUMP, 0));
        good("a code that ends with throw", Check.judged(0, "", Check.NULL, 0, Check.THROW, 0));
        good("throw above other values", Check.judged(0, "", Check.PUSH, 0, Check.NULL, 0, Check.THROW, 0));
        bad("throw of an int", Check.judged(0, "", Check.PUSH, 0, Check.THROW, 0));
        bad("something behind a return", Check.judged(0, "", Check.RETURN, 0, Check.RETURN, 0));
        bad("something behind a jump", Check.judged(0, "", Check.JUMP, 0, Check.RETURN, 0));
        bad("something behind a throw", Check.judged(0, "", Check.NULL, 0, Check.THROW, 0, Check.RETURN, 0));
        good("values below a throw, and a label behind it", Check.judged(0, "", Check.PUSH, 0, Check.ZERO, 5,
                Check.PUSH, 1, Check.NULL, 0, Check.THROW, 0, Check.RETURN, 0));
        good("a label behind a return",
                Check.judged(0, "", Check.PUSH, 0, Check.ZERO, 3, Check.RETURN, 0, Check.RETURN, 0));
    }

    private static void jumps() {
        good("a jump with no values", Check.judged(0, "", Check.JUMP, 1, Check.RETURN, 0));
        bad("a jump with a value", Check.judged(0, "", Check.PUSH, 0, Check.JUMP, 2, Check.POP, 0, Check.RETURN, 0));
        bad("a zero jump above a value",
                Check.judged(0, "", Check.PUSH, 0, Check.PUSH, 0, Check.ZERO, 4, Check.POP, 0, Check.RETURN, 0));
        bad("a none jump above a value",
                Check.judged(0, "", Check.PUSH, 0, Check.NULL, 0, Check.NONE, 4, Check.POP, 0, Check.RETURN, 0));
        bad("going on to a label with a value",
                Check.judged(0, "", Check.PUSH, 0, Check.POP, 0, Check.JUMP, 1));
        good("going on to a label with none", Check.judged(0, "", Check.PUSH, 0, Check.POP, 0, Check.JUMP, 2));
    }

    private static void places() {
        bad("a jump to -1", Check.judged(0, "", Check.JUMP, -1));
        bad("a jump to the end", Check.judged(0, "", Check.JUMP, 1));
        bad("a zero jump to the end", Check.judged(0, "", Check.PUSH, 0, Check.ZERO, 3, Check.RETURN, 0));
        bad("a none jump far behind", Check.judged(0, "", Check.NULL, 0, Check.NONE, 1000, Check.RETURN, 0));
        bad("load of no local", Check.judged(1, "1", Check.LOAD, 1, Check.RETURN, 0));
        bad("load of no local below a throw", Check.judged(0, "", Check.LOAD, 0, Check.NULL, 0, Check.THROW, 0));
        bad("load of local -1", Check.judged(1, "1", Check.LOAD, -1, Check.RETURN, 0));
        good("load of the last local", Check.judged(1, "21", Check.LOAD, 1, Check.RETURN, 0));
        bad("load of a local of another kind", Check.judged(1, "21", Check.LOAD, 0, Check.RETURN, 0));
        bad("store to no local", Check.judged(0, "1", Check.PUSH, 0, Check.STORE, 1, Check.RETURN, 0));
        bad("store to local 8", Check.judged(0, "11111111", Check.PUSH, 0, Check.STORE, 8, Check.RETURN, 0));
        bad("a pop of none to a local there is not", Check.judged(0, "", Check.STORE, 0, Check.RETURN, 0));
    }

    private static int judgedWithRow(int from, int to, int at, int... pairs) {
        JudgedCodes x = new JudgedCodes();
        Check.code(x, 0, 0, "", pairs);
        Check.due("the row", x.row(from, to, at, 10), 1);
        return x.judge(0);
    }

    private static void rowPlaces() {
        int[] pairs = {Check.PUSH, 0, Check.POP, 0, Check.RETURN, 0, Check.POP, 0, Check.RETURN, 0};
        good("a row", judgedWithRow(0, 3, 3, pairs));
        good("a row up to the end", judgedWithRow(0, 5, 3, pairs));
        bad("a row above the end", judgedWithRow(0, 6, 3, pairs));
        bad("a row from 2 to 2", judgedWithRow(2, 2, 3, pairs));
        bad("a row from 3 to 2", judgedWithRow(3, 2, 3, pairs));
        bad("a row whose third is the end", judgedWithRow(0, 3, 5, pairs));
        bad("a row whose first has a value", judgedWithRow(1, 3, 3, pairs));
        bad("a row whose second has a value", judgedWithRow(0, 1, 3, pairs));
        good("a row whose first has none", judgedWithRow(2, 3, 3, pairs));
        good("a row from its taker on", judgedWithRow(3, 5, 3, pairs));
    }

    private static void takers() {
        bad("a taker that is the beginning", judgedWithRow(0, 2, 0, Check.POP, 0, Check.RETURN, 0));
        bad("a taker that is the beginning, without pop", judgedWithRow(0, 1, 0, Check.RETURN, 0));
        bad("a taker with a row in front", judgedWithRow(0, 1, 1, Check.NULL, 0, Check.POP, 0, Check.RETURN, 0));
        bad("a taker reached with no value",
                judgedWithRow(0, 1, 2, Check.NULL, 0, Check.POP, 0, Check.POP, 0, Check.RETURN, 0));
        bad("a jump to a taker", judgedWithRow(0, 1, 1, Check.JUMP, 1, Check.POP, 0, Check.RETURN, 0));
        bad("a taker that jumps to itself", judgedWithRow(0, 1, 1, Check.RETURN, 0, Check.POP, 0, Check.JUMP, 1));
        bad("a zero jump to a taker", judgedWithRow(0, 1, 3,
                Check.PUSH, 0, Check.ZERO, 3, Check.RETURN, 0, Check.POP, 0, Check.RETURN, 0));
        bad("a none jump to a taker", judgedWithRow(0, 2, 3,
                Check.NULL, 0, Check.NONE, 3, Check.RETURN, 0, Check.POP, 0, Check.RETURN, 0));
        good("a taker behind a return", judgedWithRow(0, 1, 1, Check.RETURN, 0, Check.POP, 0, Check.RETURN, 0));
        good("a taker throws its ref", judgedWithRow(0, 1, 1, Check.RETURN, 0, Check.THROW, 0));
        bad("a taker without pop", judgedWithRow(0, 1, 1, Check.RETURN, 0, Check.RETURN, 0));
        bad("a taker has no int", judgedWithRow(0, 1, 1, Check.RETURN, 0, Check.PUSH, 0, Check.ADD, 0, Check.POP, 0,
                Check.RETURN, 0));
        bad("a taker has one ref alone", judgedWithRow(0, 1, 1, Check.RETURN, 0, Check.POP, 0, Check.POP, 0,
                Check.RETURN, 0));
        good("a taker behind a throw",
                judgedWithRow(0, 2, 2, Check.NULL, 0, Check.THROW, 0, Check.POP, 0, Check.RETURN, 0));
    }

    private static void calls() {
        JudgedCodes x = new JudgedCodes();
        Check.code(x, 0, 0, "", Check.CALL, 1, Check.RETURN, 0);
        Check.due("judge(0) before code 1 is told", x.judge(0), 0);
        x.code(0, 0);
        Check.due("judge(0) when it is told, though not good", x.judge(0), 1);
        Check.due("judge(1)", x.judge(1), 0);
        Check.code(x, 2, 1, "12", Check.PUSH, 0, Check.RETURN, 0);
        Check.due("judge(2)", x.judge(2), 1);
        Check.code(x, 0, 1, "", Check.PUSH, 0, Check.NULL, 0, Check.CALL, 2, Check.RETURN, 0);
        Check.due("the last parameter is on top", x.judge(3), 1);
        Check.code(x, 0, 1, "", Check.NULL, 0, Check.PUSH, 0, Check.CALL, 2, Check.RETURN, 0);
        Check.due("the last parameter is not on top", x.judge(4), 0);
        Check.code(x, 0, 1, "", Check.NULL, 0, Check.CALL, 2, Check.RETURN, 0);
        Check.due("a parameter is missing", x.judge(5), 0);
        Check.code(x, 0, 2, "", Check.PUSH, 0, Check.NULL, 0, Check.CALL, 2, Check.RETURN, 0);
        Check.due("the result is not a ref", x.judge(6), 0);
        Check.code(x, 0, 0, "", Check.CALL, -1, Check.RETURN, 0);
        Check.due("a call of code -1", x.judge(7), 0);
        Check.code(x, 0, 1, "", Check.CALL, 8, Check.RETURN, 0);
        Check.due("a call of itself", x.judge(8), 1);
        Check.code(x, 1, 0, "", Check.RETURN, 0);
        Check.code(x, 0, 0, "", Check.PUSH, 0, Check.CALL, 9, Check.RETURN, 0);
        Check.due("a call of a code whose parameter is not told", x.judge(10), 0);
    }

    private static void parameters() {
        JudgedCodes x = new JudgedCodes();
        x.code(2, 0);
        x.add(Check.RETURN, 0);
        Check.due("no locals for two parameters", x.judge(0), 0);
        x.local(1);
        Check.due("one local for two parameters", x.judge(0), 0);
        x.local(2);
        Check.due("two locals for two parameters", x.judge(0), 1);
        x.local(2);
        Check.due("three locals for two parameters", x.judge(0), 1);
    }

    /** What one code names is nothing to another one. */
    private static void judgedInTurn() {
        JudgedCodes x = new JudgedCodes();
        Check.code(x, 0, 0, "", Check.PUSH, 0, Check.POP, 0, Check.RETURN, 0);
        Check.code(x, 0, 0, "", Check.PUSH, 0, Check.POP, 0, Check.RETURN, 0, Check.RETURN, 0);
        x.row(0, 1, 0, 10);
        x.row(1, 3, 2, 10);
        for (int i = 0; i < 2; i++) {
            Check.due("the bad one", x.judge(1), 0);
            Check.due("the good one", x.judge(0), 1);
        }
    }

    private static void returns() {
        good("return of none", Check.judged(0, "", Check.RETURN, 0));
        bad("return with one left", Check.judged(0, "", Check.PUSH, 0, Check.RETURN, 0));
        good("return of an int", Check.judged(1, "", Check.PUSH, 0, Check.RETURN, 0));
        bad("return of a ref for an int", Check.judged(1, "", Check.NULL, 0, Check.RETURN, 0));
        good("return of a ref", Check.judged(2, "", Check.NULL, 0, Check.RETURN, 0));
        bad("return of an int for a ref", Check.judged(2, "", Check.PUSH, 0, Check.RETURN, 0));
        bad("return without the result", Check.judged(1, "", Check.RETURN, 0));
        bad("return of an int with one left", Check.judged(1, "", Check.PUSH, 0, Check.PUSH, 0, Check.RETURN, 0));
    }
}
