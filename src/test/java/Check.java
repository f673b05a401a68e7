/** What every test of the project uses: answers held against what is due, and codes told in one go. */
final class Check {
    static final int PUSH = 0, NULL = 1, POP = 2, DUP = 3, ADD = 4, SUB = 5, MUL = 6, DIV = 7, LESS = 8;
    static final int LOAD = 9, STORE = 10, JUMP = 11, ZERO = 12, NONE = 13, NEW = 14, IS = 15, GET = 16;
    static final int PUT = 17, CALL = 18, THROW = 19, ENTER = 20, LEAVE = 21, RETURN = 22, REF_GET = 23;
    static final int REF_PUT = 24, GLOBAL = 25, SET_GLOBAL = 26;

    /** The numbers farthest from all that is asked for. */
    static final int MIN = Integer.MIN_VALUE, MAX = Integer.MAX_VALUE;

    private static int wrong = 0;
    private static int checked = 0;
    private static String sentence = "";

    private Check() {
    }

    /** The words of the document that the next answers are due by; they are told with each wrong one. */
    static void sentence(String words) {
        sentence = "\"" + words + "\" -- ";
    }

    static void due(String call, long got, long want) {
        checked++;
        if (got != want) {
            wrong++;
            System.out.println(sentence + call + " answered " + got + ", due is " + want);
        }
    }

    static void end() {
        System.out.println(checked + " answers, " + wrong + " wrong");
        if (wrong != 0 || checked == 0) {
            System.exit(1);
        }
    }

    /** Tells a code without rows: its kinds as a text of 1 and 2, its instructions as pairs op, a. */
    static int code(JudgedCodes x, int parameters, int result, String kinds, int... pairs) {
        int number = x.code(parameters, result);
        for (int i = 0; i < kinds.length(); i++) {
            x.local(kinds.charAt(i) - '0');
        }
        for (int i = 0; i + 1 < pairs.length; i += 2) {
            x.add(pairs[i], pairs[i + 1]);
        }
        return number;
    }

    /** How a code with result is judged on an object of its own. */
    static int judged(int result, String kinds, int... pairs) {
        JudgedCodes x = new JudgedCodes();
        return x.judge(code(x, 0, result, kinds, pairs));
    }

    /** Runs a code on an object of its own, and gives that object. */
    static JudgedCodes ran(int result, String kinds, int... pairs) {
        JudgedCodes x = new JudgedCodes();
        code(x, 0, result, kinds, pairs);
        due("thread(0)", x.thread(0), 0);
        x.run(0, 10000);
        return x;
    }

    /** What a code ends with. */
    static int outcome(int result, String kinds, int... pairs) {
        JudgedCodes x = ran(result, kinds, pairs);
        due("run(0, 0)", x.run(0, 0), 1);
        return x.told(0, 2);
    }

    /** The kind of the object that ends a code by a failure. */
    static int failure(int result, String kinds, int... pairs) {
        JudgedCodes x = ran(result, kinds, pairs);
        due("run(0, 0)", x.run(0, 0), 2);
        return x.object(x.told(0, 2), 0);
    }
}
