import java.util.ArrayList;
import java.util.List;
import java.util.Random;

/**
 * A code that is made up by chance, and good but for a block at times that nothing is left to name: its kinds are
 * followed while it grows, blocks behind a jump, throw or return begin as labels or takers, and the jumps and rows
 * that name them are chosen at its end.
 */
final class Draft {
    private static final int[] OPS = {
        Check.PUSH, Check.PUSH, Check.NULL, Check.POP, Check.DUP, Check.ADD, Check.SUB, Check.MUL, Check.DIV,
        Check.LESS, Check.LOAD, Check.LOAD, Check.STORE, Check.STORE, Check.JUMP, Check.ZERO, Check.NONE,
        Check.NONE, Check.NEW, Check.NEW, Check.IS, Check.GET, Check.PUT, Check.CALL, Check.CALL, Check.THROW,
        Check.ENTER, Check.ENTER, Check.ENTER, Check.LEAVE, Check.LEAVE, Check.RETURN, Check.REF_GET,
        Check.REF_PUT, Check.GLOBAL, Check.GLOBAL, Check.GLOBAL, Check.SET_GLOBAL, Check.SET_GLOBAL};
    private static final int[] NUMBERS = {0, 0, 1, 2, -1, 3, 1000003, Check.MIN, Check.MAX};

    final int parameters;
    final int result;
    final List<Integer> locals = new ArrayList<>();
    final List<int[]> body = new ArrayList<>();
    final List<int[]> rows = new ArrayList<>();

    private final Random random;
    private final List<Integer> emptyPlaces = new ArrayList<>();
    private final List<Integer> unnamed = new ArrayList<>();
    private final List<Integer> takers = new ArrayList<>();
    private final List<int[]> jumps = new ArrayList<>();
    private String kinds = "";

    Draft(Random random, int parameters) {
        this.random = random;
        this.parameters = parameters;
        result = random.nextInt(3);
        int count = Math.min(8, parameters + random.nextInt(4));
        for (int i = 0; i < count; i++) {
            locals.add(1 + random.nextInt(2));
        }
    }

    /** Grows once all codes that may be called are known by their kinds; first is the number of the first one. */
    void grow(List<Draft> callable, int first) {
        int length = 1 + random.nextInt(random.nextInt(20) == 0 ? 60 : 35);
        emptyPlaces.add(0);
        for (int g = 0; g < 2 && random.nextInt(3) > 0; g++) {
            shareObject(g);
        }
        while (body.size() < length) {
            switch (random.nextInt(14)) {
                case 0, 1, 2 -> enterShared(random.nextInt(2));
                case 3 -> compute();
                case 4 -> useField(random.nextInt(2));
                default -> growByOne(callable, first);
            }
        }
        finish();
        int end = body.size();
        boolean guarded = random.nextInt(3) > 0;
        if (guarded) {
            beginAgain();
        }
        nameJumps();
        nameTakers();
        nameTheRest();
        if (guarded) {
            rows.add(new int[] {0, end, end, 10});
        }
    }

    /** An object for a global that has none yet, so that threads come to the same monitors. */
    private void shareObject(int g) {
        int at = body.size();
        body.add(new int[] {Check.GLOBAL, g});
        body.add(new int[] {Check.NONE, at + 3});
        body.add(new int[] {Check.JUMP, at + 5});
        body.add(new int[] {Check.NEW, random.nextInt(10)});
        body.add(new int[] {Check.SET_GLOBAL, g});
        emptyPlaces.add(at + 3);
        emptyPlaces.add(at + 5);
    }

    private void enterShared(int g) {
        if (kinds.isEmpty()) {
            body.add(new int[] {Check.GLOBAL, g});
            body.add(new int[] {Check.ENTER, 0});
            emptyPlaces.add(body.size());
        }
    }

    /** Two numbers for one, which stays to be looked at or used. */
    private void compute() {
        if (kinds.length() <= 10) {
            body.add(new int[] {Check.PUSH, number()});
            body.add(new int[] {Check.PUSH, number()});
            body.add(new int[] {Check.ADD + random.nextInt(5), 0});
            kinds += "1";
        }
    }

    /** Puts what another piece may get: an int, or the object itself. */
    private void useField(int g) {
        if (!kinds.isEmpty()) {
            return;
        }
        boolean ref = random.nextBoolean();
        int field = random.nextInt(4);
        body.add(new int[] {Check.GLOBAL, g});
        body.add(ref ? new int[] {Check.GLOBAL, random.nextInt(2)} : new int[] {Check.PUSH, number()});
        body.add(ref ? new int[] {Check.REF_PUT, 4 + field} : new int[] {Check.PUT, field});
        emptyPlaces.add(body.size());
        body.add(new int[] {Check.GLOBAL, random.nextInt(2)});
        body.add(ref ? new int[] {Check.REF_GET, 4 + field} : new int[] {Check.GET, field});
        kinds = ref ? "2" : "1";
    }

    private int number() {
        return NUMBERS[random.nextInt(NUMBERS.length)];
    }

    /** Begins again after any failure, so that threads live long enough to meet. */
    private void beginAgain() {
        body.add(new int[] {Check.POP, 0});
        addJump();
    }

    private void growByOne(List<Draft> callable, int first) {
        int op = OPS[random.nextInt(OPS.length)];
        int which = random.nextInt(callable.size());
        int a = op == Check.CALL ? first + which : operand(op);
        String takes = takenBy(op, a, callable.get(which));
        String gives = givenBy(op, a, callable.get(which));
        if (takes == null || gives == null || !kinds.endsWith(takes)) {
            return;
        }
        String left = kinds.substring(0, kinds.length() - takes.length()) + gives;
        boolean leaves = isJump(op) || op == Check.RETURN;
        if (left.length() > 12 || leaves && !left.isEmpty() || isLast(op) && random.nextInt(3) > 0) {
            return;
        }
        kinds = left;
        tell(op, a);
    }

    private void tell(int op, int a) {
        int[] one = {op, a};
        body.add(one);
        if (isJump(op)) {
            jumps.add(one);
        }
        if (isLast(op)) {
            beginBlock();
        } else if (kinds.isEmpty()) {
            emptyPlaces.add(body.size());
        }
    }

    private void beginBlock() {
        boolean taker = random.nextInt(3) > 0;
        kinds = taker ? "2" : "";
        if (taker) {
            takers.add(body.size());
        } else {
            emptyPlaces.add(body.size());
            unnamed.add(body.size());
        }
    }

    /** Ends with a jump or a return, or leaves it where a block would only begin. */
    private void finish() {
        Integer here = body.size();
        boolean begins = takers.contains(here) || unnamed.contains(here);
        if (begins && random.nextInt(4) > 0) {
            takers.remove(here);
            unnamed.remove(here);
            emptyPlaces.remove(here);
            return;
        }
        while (!kinds.isEmpty()) {
            kinds = kinds.substring(0, kinds.length() - 1);
            tell(Check.POP, 0);
        }
        if (random.nextBoolean()) {
            addJump();
            return;
        }
        if (result != 0) {
            kinds = "" + result;
            tell(result == 1 ? Check.PUSH : Check.NULL, number());
        }
        body.add(new int[] {Check.RETURN, 0});
    }

    private void addJump() {
        int[] jump = {Check.JUMP, 0};
        body.add(jump);
        jumps.add(jump);
    }

    private void nameJumps() {
        for (int[] one : jumps) {
            boolean names = !unnamed.isEmpty();
            Integer place = names ? unnamed.get(0) : emptyPlaces.get(random.nextInt(emptyPlaces.size()));
            unnamed.remove(place);
            one[1] = place;
        }
    }

    private void nameTakers() {
        for (int taker : takers) {
            int count = 1 + random.nextInt(2);
            for (int i = 0; i < count; i++) {
                addRow(anyPlace(), anyPlace(), taker);
            }
        }
    }

    /** A block that no jump was left for is named by a row; one needs a taker for it. */
    private void nameTheRest() {
        for (int place : unnamed) {
            if (!takers.isEmpty()) {
                addRow(place, body.size(), takers.get(random.nextInt(takers.size())));
            }
        }
    }

    private int anyPlace() {
        int i = random.nextInt(emptyPlaces.size() + 2);
        return i < emptyPlaces.size() ? emptyPlaces.get(i) : i == emptyPlaces.size() ? body.size() : 0;
    }

    private void addRow(int one, int other, int at) {
        int kind = random.nextBoolean() ? 10 : random.nextInt(10);
        int to = one == other ? body.size() : Math.max(one, other);
        int from = Math.min(one, other);
        rows.add(new int[] {from == to ? 0 : from, to, at, kind});
    }

    private int operand(int op) {
        return switch (op) {
            case Check.PUSH -> number();
            case Check.LOAD, Check.STORE -> random.nextInt(Math.max(1, locals.size()));
            case Check.NEW, Check.IS -> random.nextInt(10);
            case Check.GET, Check.PUT -> random.nextInt(4);
            case Check.REF_GET, Check.REF_PUT -> 4 + random.nextInt(4);
            case Check.GLOBAL, Check.SET_GLOBAL -> random.nextInt(2) * random.nextInt(4);
            default -> 0;
        };
    }

    private String takenBy(int op, int a, Draft called) {
        return switch (op) {
            case Check.POP, Check.DUP -> top();
            case Check.ADD, Check.SUB, Check.MUL, Check.DIV, Check.LESS -> "11";
            case Check.STORE -> kindOf(a);
            case Check.ZERO -> "1";
            case Check.NONE, Check.IS, Check.GET, Check.THROW, Check.ENTER, Check.LEAVE, Check.REF_GET,
                Check.SET_GLOBAL -> "2";
            case Check.PUT -> "21";
            case Check.REF_PUT -> "22";
            case Check.CALL -> called.kindsOfParameters();
            case Check.RETURN -> result == 0 ? "" : "" + result;
            default -> "";
        };
    }

    private String givenBy(int op, int a, Draft called) {
        return switch (op) {
            case Check.PUSH, Check.ADD, Check.SUB, Check.MUL, Check.DIV, Check.LESS, Check.IS, Check.GET -> "1";
            case Check.NULL, Check.NEW, Check.GLOBAL, Check.REF_GET -> "2";
            case Check.DUP -> top() == null ? null : top() + top();
            case Check.LOAD -> kindOf(a);
            case Check.CALL -> called.result == 0 ? "" : "" + called.result;
            default -> "";
        };
    }

    private String top() {
        return kinds.isEmpty() ? null : kinds.substring(kinds.length() - 1);
    }

    private String kindOf(int local) {
        return local < locals.size() ? "" + locals.get(local) : null;
    }

    private String kindsOfParameters() {
        StringBuilder text = new StringBuilder();
        for (int i = 0; i < parameters; i++) {
            text.append(locals.get(i));
        }
        return text.toString();
    }

    private static boolean isJump(int op) {
        return op == Check.JUMP || op == Check.ZERO || op == Check.NONE;
    }

    private static boolean isLast(int op) {
        return op == Check.JUMP || op == Check.THROW || op == Check.RETURN;
    }
}
