/** Promises 1 to 5: a new object, code, local, add, row. */
public final class TellingTest {
    public static void main(String[] args) {
        newObject();
        codes();
        codesAndThreads();
        locals();
        instructions();
        operands();
        rows();
        refusalsInOrder();
        Check.end();
    }

    private static void newObject() {
        JudgedCodes x = new JudgedCodes();
        Check.due("judge(0) of no code", x.judge(0), -14);
        Check.due("local(1) of no code", x.local(1), -14);
        Check.due("add(0, 0) of no code", x.add(0, 0), -14);
        Check.due("row(0, 1, 0, 0) of no code", x.row(0, 1, 0, 0), -14);
        Check.due("thread(0) of no code", x.thread(0), -14);
        Check.due("run(0, 1) of no thread", x.run(0, 1), -14);
        Check.due("told(0, 0) of no thread", x.told(0, 0), -14);
        Check.due("object(1, 0) of no object", x.object(1, 0), -14);
        Check.due("value(0, 0) of no thread", x.value(0, 0), 0);
        Check.due("stuck() of no thread", x.stuck(), 0);
        for (int i = 0; i < 4; i++) {
            Check.due("global(" + i + ")", x.global(i), 0);
        }
    }

    private static void codes() {
        JudgedCodes x = new JudgedCodes();
        Check.due("code(-1, 0)", x.code(-1, 0), -1);
        Check.due("code(9, 0)", x.code(9, 0), -1);
        Check.due("code(0, -1)", x.code(0, -1), -1);
        Check.due("code(0, 3)", x.code(0, 3), -1);
        Check.due("a refused code is not open", x.add(0, 0), -14);
        Check.due("code(8, 2)", x.code(8, 2), 0);
        for (int i = 1; i < 40; i++) {
            Check.due("code " + i, x.code(i % 9, i % 3), i);
        }
        Check.due("a 41st code", x.code(0, 0), -12);
        Check.due("a 41st code with 9 parameters", x.code(9, 0), -1);
        Check.due("the latest is still open", x.add(0, 0), 0);
        Check.due("judge(40) with 40 codes", x.judge(40), -14);
        Check.due("thread(40) with 40 codes", x.thread(40), -14);
    }

    private static void codesAndThreads() {
        JudgedCodes x = new JudgedCodes();
        Check.code(x, 0, 0, "", Check.RETURN, 0);
        Check.due("thread(7) of no code", x.thread(7), -14);
        Check.due("a refused thread closes nothing", x.local(1), 1);
        Check.due("code(0, 3) refused", x.code(0, 3), -1);
        Check.due("a refused code closes nothing", x.local(1), 2);
        Check.due("thread(0)", x.thread(0), 0);
        Check.due("a thread closes the code", x.add(0, 0), -14);
        Check.due("a thread closes the code to locals", x.local(1), -14);
        Check.due("a thread closes the code to rows", x.row(0, 1, 0, 0), -14);
        Check.due("code with a thread", x.code(0, 0), -1);
        x.run(0, 1);
        Check.due("code with an ended thread", x.code(0, 0), -1);
    }

    private static void locals() {
        JudgedCodes x = new JudgedCodes();
        x.code(0, 0);
        Check.due("local(0)", x.local(0), -1);
        Check.due("local(3)", x.local(3), -1);
        for (int i = 1; i <= 8; i++) {
            Check.due("local " + i, x.local(1 + i % 2), i);
        }
        Check.due("a ninth local", x.local(1), -12);
        Check.due("a ninth local of no kind", x.local(3), -1);
        x.code(0, 0);
        Check.due("the first local of the next code", x.local(2), 1);
    }

    private static void instructions() {
        JudgedCodes x = new JudgedCodes();
        x.code(0, 0);
        Check.due("add(-1, 0)", x.add(-1, 0), -1);
        Check.due("add(27, 0)", x.add(27, 0), -1);
        for (int i = 0; i < 60; i++) {
            Check.due("instruction " + i, x.add(Check.PUSH, Integer.MIN_VALUE + i), i);
        }
        Check.due("a 61st instruction", x.add(0, 0), -12);
        Check.due("a 61st instruction of no op", x.add(27, 0), -1);
        x.code(0, 0);
        Check.due("the first instruction of the next code", x.add(22, 0), 0);
    }

    private static void operands() {
        for (int op = 0; op <= 26; op++) {
            int least = op == Check.REF_GET || op == Check.REF_PUT ? 4 : 0;
            int most = switch (op) {
                case Check.NEW, Check.IS -> 9;
                case Check.GET, Check.PUT, Check.GLOBAL, Check.SET_GLOBAL -> 3;
                case Check.REF_GET, Check.REF_PUT -> 7;
                default -> -1;
            };
            for (int a = -3; a <= 12; a++) {
                JudgedCodes x = new JudgedCodes();
                x.code(0, 0);
                boolean taken = most < 0 || a >= least && a <= most;
                Check.due("add(" + op + ", " + a + ")", x.add(op, a), taken ? 0 : -1);
            }
        }
    }

    private static void rows() {
        JudgedCodes x = new JudgedCodes();
        x.code(0, 0);
        Check.due("row(-1, 1, 1, 0)", x.row(-1, 1, 1, 0), -1);
        Check.due("row(0, -1, 1, 0)", x.row(0, -1, 1, 0), -1);
        Check.due("row(0, 1, -1, 0)", x.row(0, 1, -1, 0), -1);
        Check.due("row(61, 1, 1, 0)", x.row(61, 1, 1, 0), -1);
        Check.due("row(0, 61, 1, 0)", x.row(0, 61, 1, 0), -1);
        Check.due("row(0, 1, 61, 0)", x.row(0, 1, 61, 0), -1);
        Check.due("row(0, 1, 1, -1)", x.row(0, 1, 1, -1), -1);
        Check.due("row(0, 1, 1, 11)", x.row(0, 1, 1, 11), -1);
        Check.due("row(60, 60, 60, 10)", x.row(60, 60, 60, 10), 1);
        Check.due("row(0, 0, 0, 0)", x.row(0, 0, 0, 0), 2);
        Check.due("row(9, 3, 1, 5), which judging refuses", x.row(9, 3, 1, 5), 3);
        for (int i = 4; i <= 20; i++) {
            Check.due("row " + i, x.row(0, 1, 2, i % 11), i);
        }
        Check.due("a 21st row", x.row(0, 1, 2, 0), -12);
        Check.due("a 21st row of no kind", x.row(0, 1, 2, 11), -1);
        x.code(0, 0);
        Check.due("the first row of the next code", x.row(0, 1, 2, 0), 1);
    }

    private static void refusalsInOrder() {
        JudgedCodes x = new JudgedCodes();
        Check.due("local(5) of no code", x.local(5), -14);
        Check.due("add(99, 0) of no code", x.add(99, 0), -14);
        Check.due("row(-1, 0, 0, 0) of no code", x.row(-1, 0, 0, 0), -14);
    }
}
