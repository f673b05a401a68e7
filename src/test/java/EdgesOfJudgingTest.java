/** Promise 6 and JUDGING: a test for each sentence that names an edge. */
public final class EdgesOfJudgingTest {
    private static final int[] LAST_OPS = {Check.JUMP, Check.THROW, Check.RETURN};

    public static void main(String[] args) {
        noSuchCode();
        lessLocalsThanParameters();
        emptyAtFirst();
        atMostTwelve();
        twelveAreUsed();
        parametersOfCalls();
        nothingIsLeft();
        emptyAtALabel();
        emptyWhereOneJumps();
        labelsByRows();
        takersHaveOneRef();
        nothingJumpsToATaker();
        nothingGoesOnToATaker();
        norDoesTheBeginning();
        takersThatOtherRowsName();
        labelsBehind();
        noLabelBehind();
        theEndBehind();
        theLastInstruction();
        jumpPlaces();
        thirdPlaces();
        placesOfAFullCode();
        namedLocals();
        namedCodes();
        firstBelowSecond();
        everyRowIsLookedAt();
        Check.end();
    }

    private static int judgedWithRow(int from, int to, int at, int... pairs) {
        JudgedCodes x = new JudgedCodes();
        Check.code(x, 0, 0, "12", pairs);
        x.row(from, to, at, 10);
        return x.judge(0);
    }

    private static void noSuchCode() {
        Check.sentence("Whether a code is good: 1, 0; -14.");
        JudgedCodes x = new JudgedCodes();
        Check.code(x, 0, 0, "", Check.RETURN, 0);
        Check.code(x, 0, 0, "");
        Check.due("judge(0)", x.judge(0), 1);
        Check.due("judge(1), which is open", x.judge(1), 0);
        int[] none = {-1, 2, 39, 40, Check.MIN, Check.MAX};
        for (int c : none) {
            Check.due("judge(" + c + ")", x.judge(c), -14);
        }
    }

    private static void lessLocalsThanParameters() {
        Check.sentence("(Also if it has less locals than parameters: 0.)");
        for (int parameters = 0; parameters <= 8; parameters++) {
            JudgedCodes x = new JudgedCodes();
            Check.code(x, parameters, 0, "", Check.RETURN, 0);
            for (int locals = 0; locals <= 8; locals++) {
                Check.due(parameters + " parameters, " + locals + " locals", x.judge(0), locals < parameters ? 0 : 1);
                x.local(1 + locals % 2);
            }
        }
    }

    private static void emptyAtFirst() {
        Check.sentence("JUDGING: a row of kinds, empty at first");
        int[] takers = {Check.POP, Check.DUP, Check.STORE, Check.ENTER, Check.LEAVE, Check.SET_GLOBAL};
        for (int op : takers) {
            Check.due("op " + op + " at first", Check.judged(0, "1", op, 0, Check.NULL, 0, Check.THROW, 0), 0);
        }
        int[] pairs = {Check.ADD, Check.SUB, Check.MUL, Check.DIV, Check.LESS};
        for (int op : pairs) {
            int got = Check.judged(0, "1", Check.PUSH, 0, op, 0, Check.POP, 0, Check.RETURN, 0);
            Check.due("op " + op + " of one int", got, 0);
        }
        Check.due("throw at first", Check.judged(0, "", Check.THROW, 0), 0);
        Check.due("return of one at first", Check.judged(1, "", Check.RETURN, 0), 0);
        Check.due("return of none at first", Check.judged(0, "", Check.RETURN, 0), 1);
    }

    /**
     * How a code is judged that lays a ref and then others of a kind, does an instruction, pops all that is left
     * but that ref, and throws it: nothing but the instruction itself may go beyond the twelfth value.
     */
    private static int judgedAt(int values, int filler, int op, int a, int left) {
        JudgedCodes x = new JudgedCodes();
        Check.code(x, 0, 1, "", Check.PUSH, 0, Check.RETURN, 0);
        Check.code(x, 8, 1, "11111111", Check.PUSH, 0, Check.RETURN, 0);
        Check.code(x, 0, 0, "", Check.RETURN, 0);
        Check.code(x, 0, 0, "1", Check.NULL, 0);
        for (int i = 1; i < values; i++) {
            x.add(filler, 0);
        }
        x.add(op, a);
        for (int i = 1; i < left; i++) {
            x.add(Check.POP, 0);
        }
        x.add(Check.THROW, 0);
        return x.judge(3);
    }

    private static void atMostTwelve() {
        Check.sentence("a row of kinds, empty at first, at most 12");
        int[] givers = {Check.PUSH, Check.NULL, Check.DUP, Check.LOAD, Check.NEW, Check.GLOBAL, Check.CALL};
        for (int op : givers) {
            Check.due("op " + op + " gives a twelfth", judgedAt(11, Check.PUSH, op, 0, 12), 1);
            Check.due("op " + op + " gives a thirteenth", judgedAt(12, Check.PUSH, op, 0, 13), 0);
        }
    }

    private static void twelveAreUsed() {
        Check.sentence("a row of kinds, empty at first, at most 12");
        int[] ofTwo = {Check.ADD, Check.SUB, Check.MUL, Check.DIV, Check.LESS};
        for (int op : ofTwo) {
            Check.due("op " + op + " at twelve", judgedAt(12, Check.PUSH, op, 0, 11), 1);
        }
        Check.due("is at twelve", judgedAt(12, Check.NULL, Check.IS, 0, 12), 1);
        Check.due("get at twelve", judgedAt(12, Check.NULL, Check.GET, 0, 12), 1);
        Check.due("ref get at twelve", judgedAt(12, Check.NULL, Check.REF_GET, 4, 12), 1);
        Check.due("ref put at twelve", judgedAt(12, Check.NULL, Check.REF_PUT, 4, 10), 1);
        Check.due("a call of eight parameters at twelve", judgedAt(12, Check.PUSH, Check.CALL, 1, 5), 1);
        Check.due("a call without a result at twelve", judgedAt(12, Check.PUSH, Check.CALL, 2, 12), 1);
    }

    private static void parametersOfCalls() {
        Check.sentence("call takes its parameters (the last on top) for its result");
        for (int parameters = 1; parameters <= 8; parameters++) {
            for (int given = parameters - 1; given <= parameters + 1; given++) {
                JudgedCodes x = new JudgedCodes();
                Check.code(x, parameters, 0, "111111112".substring(9 - parameters), Check.RETURN, 0);
                Check.code(x, 0, 0, "");
                for (int i = 1; i < given; i++) {
                    x.add(Check.PUSH, 0);
                }
                x.add(given > 0 ? Check.NULL : Check.JUMP, given > 0 ? 0 : 1);
                x.add(Check.CALL, 0);
                x.add(Check.RETURN, 0);
                int want = given == parameters ? 1 : 0;
                Check.due(given + " values for " + parameters + " parameters", x.judge(1), want);
            }
        }
    }

    private static void nothingIsLeft() {
        Check.sentence("return the result's kind, and nothing is left");
        for (int result = 0; result <= 2; result++) {
            for (int left = 0; left <= 2; left++) {
                JudgedCodes x = new JudgedCodes();
                x.code(0, result);
                for (int i = 0; i < left; i++) {
                    x.add(Check.PUSH, 0);
                }
                x.add(result == 2 ? Check.NULL : Check.PUSH, 0);
                if (result == 0) {
                    x.add(Check.POP, 0);
                }
                x.add(Check.RETURN, 0);
                Check.due("result " + result + ", left " + left, x.judge(0), left == 0 ? 1 : 0);
            }
        }
    }

    private static void emptyAtALabel() {
        Check.sentence("At a LABEL the row is empty");
        int[] want = {1, 0, 1, 0, 1};
        for (int place = 0; place < want.length; place++) {
            Check.due("zero to " + place, Check.judged(0, "", Check.PUSH, 0, Check.POP, 0, Check.PUSH, 0,
                    Check.ZERO, place, Check.RETURN, 0), want[place]);
            Check.due("none to " + place, Check.judged(0, "", Check.NULL, 0, Check.POP, 0, Check.NULL, 0,
                    Check.NONE, place, Check.RETURN, 0), want[place]);
            Check.due("jump to " + place, Check.judged(0, "", Check.PUSH, 0, Check.POP, 0, Check.PUSH, 0,
                    Check.POP, 0, Check.JUMP, place), want[place]);
        }
    }

    private static void emptyWhereOneJumps() {
        Check.sentence("At a LABEL the row is empty, and where one jumps");
        for (int laid = 0; laid <= 1; laid++) {
            int first = laid == 0 ? Check.POP : Check.DUP;
            int want = 1 - laid;
            Check.due("jump, laid " + laid,
                    Check.judged(0, "", Check.NULL, 0, first, 0, Check.JUMP, 3, Check.RETURN, 0), want);
            Check.due("zero, laid below " + laid, Check.judged(0, "", Check.NULL, 0, first, 0, Check.PUSH, 0,
                    Check.ZERO, 6, Check.NULL, 0, Check.THROW, 0, Check.RETURN, 0), want);
            Check.due("none, laid below " + laid, Check.judged(0, "", Check.NULL, 0, first, 0, Check.NULL, 0,
                    Check.NONE, 6, Check.NULL, 0, Check.THROW, 0, Check.RETURN, 0), want);
        }
    }

    private static void labelsByRows() {
        Check.sentence("A place is a LABEL if a jump, or a row with any of its three, names it");
        int[] pairs = {Check.PUSH, 0, Check.POP, 0, Check.PUSH, 0, Check.POP, 0, Check.RETURN, 0, Check.POP, 0,
                Check.RETURN, 0};
        int[] asFirst = {1, 0, 1, 0, 1, 1, 1};
        for (int place = 0; place < asFirst.length; place++) {
            Check.due("first " + place, judgedWithRow(place, 7, 5, pairs), asFirst[place]);
        }
        int[] asSecond = {0, 0, 1, 0, 1, 1, 1, 1, 0};
        for (int place = 0; place < asSecond.length; place++) {
            Check.due("second " + place, judgedWithRow(0, place, 5, pairs), asSecond[place]);
        }
        int[] asThird = {0, 0, 0, 0, 0, 1, 0, 0, 0};
        for (int place = 0; place < asThird.length; place++) {
            Check.due("third " + place, judgedWithRow(0, 7, place, pairs), asThird[place]);
        }
    }

    private static void takersHaveOneRef() {
        Check.sentence("at a TAKER it has one ref");
        Check.due("pop, return", judgedWithRow(0, 1, 1, Check.RETURN, 0, Check.POP, 0, Check.RETURN, 0), 1);
        Check.due("store of a ref", judgedWithRow(0, 1, 1, Check.RETURN, 0, Check.STORE, 1, Check.RETURN, 0), 1);
        Check.due("store of an int", judgedWithRow(0, 1, 1, Check.RETURN, 0, Check.STORE, 0, Check.RETURN, 0), 0);
        Check.due("throw", judgedWithRow(0, 1, 1, Check.RETURN, 0, Check.THROW, 0), 1);
        Check.due("return, one left", judgedWithRow(0, 1, 1, Check.RETURN, 0, Check.RETURN, 0), 0);
        Check.due("jump, one left", judgedWithRow(0, 1, 1, Check.RETURN, 0, Check.JUMP, 0), 0);
        Check.due("two pops",
                judgedWithRow(0, 1, 1, Check.RETURN, 0, Check.POP, 0, Check.POP, 0, Check.RETURN, 0), 0);
        Check.due("pop, throw", judgedWithRow(0, 1, 1, Check.RETURN, 0, Check.POP, 0, Check.THROW, 0), 0);
    }

    private static void nothingJumpsToATaker() {
        Check.sentence("at a TAKER it has one ref, nothing jumps there");
        for (int place = 2; place <= 4; place++) {
            int want = place == 3 ? 0 : 1;
            Check.due("zero to " + place, judgedWithRow(0, 2, 3, Check.PUSH, 0, Check.ZERO, place, Check.RETURN, 0,
                    Check.POP, 0, Check.RETURN, 0), want);
            Check.due("none to " + place, judgedWithRow(0, 2, 3, Check.NULL, 0, Check.NONE, place, Check.RETURN, 0,
                    Check.POP, 0, Check.RETURN, 0), want);
        }
        for (int place = 0; place <= 2; place++) {
            int want = place == 1 ? 0 : 1;
            Check.due("jump to " + place,
                    judgedWithRow(0, 1, 1, Check.JUMP, place, Check.POP, 0, Check.RETURN, 0), want);
            Check.due("the taker's jump to " + place,
                    judgedWithRow(0, 1, 1, Check.RETURN, 0, Check.POP, 0, Check.JUMP, place), want);
        }
        Check.due("a jump with one ref", judgedWithRow(0, 1, 3, Check.RETURN, 0, Check.NULL, 0, Check.JUMP, 3,
                Check.POP, 0, Check.RETURN, 0), 0);
    }

    private static void nothingGoesOnToATaker() {
        Check.sentence("nothing jumps there, and nothing goes on to it");
        Check.due("with one ref", judgedWithRow(0, 1, 1, Check.NULL, 0, Check.POP, 0, Check.RETURN, 0), 0);
        Check.due("with none", judgedWithRow(0, 2, 2, Check.PUSH, 0, Check.POP, 0, Check.POP, 0, Check.RETURN, 0), 0);
        Check.due("behind a call", judgedWithRow(0, 1, 1, Check.CALL, 0, Check.POP, 0, Check.RETURN, 0), 0);
        Check.due("behind a zero", judgedWithRow(0, 2, 2, Check.PUSH, 0, Check.ZERO, 4, Check.POP, 0,
                Check.RETURN, 0, Check.RETURN, 0), 0);
        Check.due("behind a none", judgedWithRow(0, 2, 2, Check.NULL, 0, Check.NONE, 4, Check.POP, 0,
                Check.RETURN, 0, Check.RETURN, 0), 0);
        Check.due("a return between", judgedWithRow(0, 2, 3, Check.PUSH, 0, Check.POP, 0, Check.RETURN, 0,
                Check.POP, 0, Check.RETURN, 0), 1);
    }

    private static void norDoesTheBeginning() {
        Check.sentence("and nothing goes on to it (nor does the beginning)");
        Check.due("it throws", judgedWithRow(0, 1, 0, Check.THROW, 0), 0);
        Check.due("it pops", judgedWithRow(0, 2, 0, Check.POP, 0, Check.RETURN, 0), 0);
        Check.due("it returns", judgedWithRow(0, 1, 0, Check.RETURN, 0), 0);
        Check.due("the next one throws", judgedWithRow(0, 1, 1, Check.RETURN, 0, Check.THROW, 0), 1);
    }

    private static void takersThatOtherRowsName() {
        Check.sentence("a TAKER if a row names it third");
        int[] pairs = {Check.RETURN, 0, Check.POP, 0, Check.RETURN, 0};
        for (int pass = 0; pass < 2; pass++) {
            JudgedCodes x = new JudgedCodes();
            Check.code(x, 0, 0, "", pairs);
            x.row(pass == 0 ? 0 : 1, pass == 0 ? 1 : 3, 1, 10);
            x.row(pass == 0 ? 1 : 0, pass == 0 ? 3 : 1, 1, 0);
            Check.due("named first, second and third", x.judge(0), 1);
        }
        Check.due("named first and third", judgedWithRow(1, 3, 1, pairs), 1);
        Check.due("named second and third", judgedWithRow(0, 1, 1, pairs), 1);
    }

    /** Three instructions, the last of them one that nothing goes on from, and what comes behind it. */
    private static int[] behind(int last, int... more) {
        int second = last == Check.THROW ? Check.NULL : Check.POP;
        int[] all = new int[6 + more.length];
        int[] first = {Check.NULL, 0, second, 0, last, 0};
        System.arraycopy(first, 0, all, 0, 6);
        System.arraycopy(more, 0, all, 6, more.length);
        return all;
    }

    private static void labelsBehind() {
        Check.sentence("Behind jump, throw, return comes a LABEL");
        for (int last : LAST_OPS) {
            String what = "behind op " + last + ", named by a ";
            Check.due(what + "jump", Check.judged(0, "", behind(last, Check.JUMP, 3)), 1);
            Check.due(what + "zero",
                    Check.judged(0, "", behind(last, Check.PUSH, 0, Check.ZERO, 3, Check.RETURN, 0)), 1);
            Check.due(what + "none",
                    Check.judged(0, "", behind(last, Check.NULL, 0, Check.NONE, 3, Check.RETURN, 0)), 1);
            int[] three = behind(last, Check.RETURN, 0, Check.POP, 0, Check.RETURN, 0);
            Check.due(what + "row first", judgedWithRow(3, 4, 4, three), 1);
            Check.due(what + "row second", judgedWithRow(0, 3, 4, three), 1);
            Check.due(what + "row third", judgedWithRow(0, 4, 3, behind(last, Check.POP, 0, Check.RETURN, 0)), 1);
        }
    }

    private static void noLabelBehind() {
        Check.sentence("Behind jump, throw, return comes a LABEL");
        for (int last : LAST_OPS) {
            String what = "behind op " + last + ", ";
            Check.due(what + "named by none", Check.judged(0, "", behind(last, Check.RETURN, 0)), 0);
            Check.due(what + "named by a jump to the next", Check.judged(0, "", behind(last, Check.PUSH, 0,
                    Check.POP, 0, Check.JUMP, 5)), 0);
            Check.due(what + "a row around it", judgedWithRow(0, 6, 4,
                    behind(last, Check.RETURN, 0, Check.POP, 0, Check.RETURN, 0)), 0);
        }
        Check.due("a push has no label behind it",
                Check.judged(0, "", Check.PUSH, 0, Check.POP, 0, Check.RETURN, 0), 1);
    }

    private static void theEndBehind() {
        Check.sentence("Behind jump, throw, return comes a LABEL, or the end");
        for (int last : LAST_OPS) {
            Check.due("the end behind op " + last, Check.judged(0, "", behind(last)), 1);
        }
    }

    private static void theLastInstruction() {
        Check.sentence("the last instruction is one of these");
        Check.due("none at all", Check.judged(0, ""), 0);
        String[] before = {"", "", "1", "1", "11", "11", "11", "11", "11", "", "1", "", "1", "2", "", "2", "2", "21",
                "", "2", "2", "2", "", "2", "22", "", "2"};
        for (int op = 0; op <= 26; op++) {
            JudgedCodes x = new JudgedCodes();
            Check.code(x, 0, 0, "", Check.RETURN, 0);
            Check.code(x, 0, 0, "1");
            for (char kind : before[op].toCharArray()) {
                x.add(kind == '1' ? Check.PUSH : Check.NULL, 0);
            }
            x.add(op, op == Check.REF_GET || op == Check.REF_PUT ? 4 : 0);
            boolean may = op == Check.JUMP || op == Check.THROW || op == Check.RETURN;
            Check.due("op " + op + " is the last", x.judge(1), may ? 1 : 0);
        }
    }

    private static void jumpPlaces() {
        Check.sentence("Jumps, and thirds of rows, name places before an instruction");
        int[] places = {0, 2, -1, 3, 4, 60, Check.MIN, Check.MAX};
        for (int place : places) {
            int want = place == 0 || place == 2 ? 1 : 0;
            Check.due("jump to " + place,
                    Check.judged(0, "", Check.PUSH, 0, Check.POP, 0, Check.JUMP, place), want);
            Check.due("zero to " + place,
                    Check.judged(0, "", Check.PUSH, 0, Check.ZERO, place, Check.RETURN, 0), want);
            Check.due("none to " + place,
                    Check.judged(0, "", Check.NULL, 0, Check.NONE, place, Check.RETURN, 0), want);
        }
    }

    private static void thirdPlaces() {
        Check.sentence("Jumps, and thirds of rows, name places before an instruction");
        int[] places = {1, 2, 3, 60};
        for (int place : places) {
            int got = judgedWithRow(0, 1, place, Check.RETURN, 0, Check.THROW, 0);
            Check.due("third " + place, got, place == 1 ? 1 : 0);
        }
    }

    /** Sixty instructions: pushes and pops, and two more. */
    private static JudgedCodes full(int op, int a, int last) {
        JudgedCodes x = new JudgedCodes();
        x.code(0, 0);
        for (int i = 0; i < 58; i++) {
            x.add(i % 2 == 0 ? Check.PUSH : Check.POP, 0);
        }
        x.add(op, a);
        Check.due("the last of sixty", x.add(last, 0), 59);
        return x;
    }

    private static void placesOfAFullCode() {
        Check.sentence("A PLACE is before an instruction (its number), or behind the last one.");
        for (int place = 58; place <= 61; place++) {
            int got = full(Check.JUMP, place, Check.RETURN).judge(0);
            Check.due("jump to " + place, got, place == 59 ? 1 : 0);
        }
        for (int second = 58; second <= 60; second++) {
            JudgedCodes x = full(Check.RETURN, 0, Check.THROW);
            x.row(0, second, 59, 10);
            Check.due("a row up to " + second, x.judge(0), 1);
        }
        JudgedCodes y = full(Check.RETURN, 0, Check.THROW);
        y.row(59, 60, 59, 10);
        Check.due("a row of the last alone", y.judge(0), 1);
        JudgedCodes z = full(Check.RETURN, 0, Check.THROW);
        z.row(0, 60, 60, 10);
        Check.due("a row to the end", z.judge(0), 0);
    }

    private static void namedLocals() {
        Check.sentence("locals and codes that are named are there");
        for (int count = 0; count <= 8; count++) {
            int[] named = {-1, 0, count - 1, count, 8, Check.MIN, Check.MAX};
            for (int a : named) {
                String kinds = "11111111".substring(8 - count);
                int want = a >= 0 && a < count ? 1 : 0;
                Check.due("load " + a + " of " + count,
                        Check.judged(0, kinds, Check.LOAD, a, Check.NULL, 0, Check.THROW, 0), want);
                Check.due("store " + a + " of " + count,
                        Check.judged(0, kinds, Check.PUSH, 0, Check.STORE, a, Check.RETURN, 0), want);
            }
        }
    }

    private static void namedCodes() {
        Check.sentence("locals and codes that are named are there (any code told when it is judged)");
        int[] named = {0, 39, 40, -1, Check.MIN, Check.MAX};
        for (int a : named) {
            JudgedCodes x = new JudgedCodes();
            Check.code(x, 0, 0, "", Check.CALL, a, Check.RETURN, 0);
            for (int c = 1; c < 40; c++) {
                Check.due("call " + a + " with " + c + " codes", x.judge(0), a == 0 ? 1 : 0);
                x.code(0, 0);
            }
            Check.due("call " + a + " with 40 codes", x.judge(0), a == 0 || a == 39 ? 1 : 0);
        }
    }

    private static void firstBelowSecond() {
        Check.sentence("a row's first place is below its second one, which is at most the end");
        int[] pairs = {Check.RETURN, 0, Check.POP, 0, Check.RETURN, 0};
        for (int first = 0; first <= 4; first++) {
            for (int second = 0; second <= 4; second++) {
                int want = first < second && second <= 3 ? 1 : 0;
                Check.due("a row " + first + " .. " + second, judgedWithRow(first, second, 1, pairs), want);
            }
        }
        Check.due("a row up to 60", judgedWithRow(0, 60, 1, pairs), 0);
    }

    private static void everyRowIsLookedAt() {
        Check.sentence("A code is GOOD if all this is so.");
        for (int wrong = 0; wrong <= 20; wrong++) {
            JudgedCodes x = new JudgedCodes();
            Check.code(x, 0, 0, "", Check.RETURN, 0, Check.POP, 0, Check.RETURN, 0);
            for (int i = 0; i < 20; i++) {
                x.row(0, i == wrong ? 0 : 1, 1, 10);
            }
            Check.due("of twenty rows, row " + wrong + " is wrong", x.judge(0), wrong < 20 ? 0 : 1);
        }
    }
}
