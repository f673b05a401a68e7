import java.util.ArrayList;
import java.util.HashSet;
import java.util.List;
import java.util.Set;

/**
 * The document told a second time, as plainly as the library lets one and in another shape than the class: kinds
 * as texts, failures as exceptions. ModelTest holds the class against it.
 */
final class Model {
    private static final String NOT_THERE = "?";

    /** What an instruction takes (the last on top) and gives, where that hangs on nothing but its op. */
    private static final String[] TAKES = {
        "", "", null, null, "11", "11", "11", "11", "11", null, null, "", "1", "2", "", "2", "2", "21", null, "2",
        "2", "2", null, "2", "22", "", "2"};
    private static final String[] GIVES = {
        "1", "2", null, null, "1", "1", "1", "1", "1", null, null, "", "", "", "2", "1", "1", "", null, "",
        "", "", null, "2", "", "2", ""};

    private static final class Told {
        final int parameters;
        final int result;
        final List<Integer> locals = new ArrayList<>();
        final List<int[]> instructions = new ArrayList<>();
        final List<int[]> rows = new ArrayList<>();

        Told(int parameters, int result) {
            this.parameters = parameters;
            this.result = result;
        }

        String kindOf(int local) {
            return local >= 0 && local < locals.size() ? "" + locals.get(local) : NOT_THERE;
        }

        String kindsOfParameters() {
            StringBuilder kinds = new StringBuilder();
            for (int i = 0; i < parameters; i++) {
                kinds.append(kindOf(i));
            }
            return kinds.toString();
        }

        String kindOfResult() {
            return result == 0 ? "" : "" + result;
        }
    }

    private static final class Thing {
        final int kind;
        final int[] fields = new int[8];
        int holder = -1;
        int times = 0;

        Thing(int kind) {
            this.kind = kind;
        }
    }

    private static final class Call {
        final Told code;
        final int[] locals;
        final List<Integer> values = new ArrayList<>();
        int at = 0;

        Call(Told code) {
            this.code = code;
            locals = new int[code.locals.size()];
        }

        int take() {
            return values.remove(values.size() - 1);
        }
    }

    private static final class Runner {
        final int number;
        final List<Call> calls = new ArrayList<>();
        int steps = 0;
        int ended = 0;
        int endedWith = 0;
        boolean tried = false;

        Runner(int number) {
            this.number = number;
        }

        Call top() {
            return calls.isEmpty() ? null : calls.get(calls.size() - 1);
        }
    }

    private static final class Thrown extends RuntimeException {
        private static final long serialVersionUID = 1;
        final int object;

        Thrown(int object) {
            super(null, null, false, false);
            this.object = object;
        }
    }

    private final List<Told> codes = new ArrayList<>();
    private final List<Runner> runners = new ArrayList<>();
    private final List<Thing> things = new ArrayList<>();
    private int[] globals = new int[4];
    private int made = 0;
    private Told open = null;

    int code(int parameters, int result) {
        if (parameters < 0 || parameters > 8 || result < 0 || result > 2 || !runners.isEmpty()) {
            return -1;
        }
        if (codes.size() == 40) {
            return -12;
        }
        open = new Told(parameters, result);
        codes.add(open);
        return codes.size() - 1;
    }

    int local(int kind) {
        if (open == null) {
            return -14;
        }
        if (kind != 1 && kind != 2) {
            return -1;
        }
        if (open.locals.size() == 8) {
            return -12;
        }
        open.locals.add(kind);
        return open.locals.size();
    }

    int add(int op, int a) {
        if (open == null) {
            return -14;
        }
        boolean kind = op != 14 && op != 15 || a >= 0 && a <= 9;
        boolean field = op != 16 && op != 17 || a >= 0 && a <= 3;
        boolean refField = op != 23 && op != 24 || a >= 4 && a <= 7;
        boolean global = op != 25 && op != 26 || a >= 0 && a <= 3;
        if (op < 0 || op > 26 || !kind || !field || !refField || !global) {
            return -1;
        }
        if (open.instructions.size() == 60) {
            return -12;
        }
        open.instructions.add(new int[] {op, a});
        return open.instructions.size() - 1;
    }

    int row(int from, int to, int at, int kind) {
        if (open == null) {
            return -14;
        }
        if (Math.min(from, Math.min(to, at)) < 0 || Math.max(from, Math.max(to, at)) > 60 || kind < 0 || kind > 10) {
            return -1;
        }
        if (open.rows.size() == 20) {
            return -12;
        }
        open.rows.add(new int[] {from, to, at, kind});
        return open.rows.size();
    }

    int judge(int c) {
        return c < 0 || c >= codes.size() ? -14 : isGood(codes.get(c)) ? 1 : 0;
    }

    private static boolean jumps(int op) {
        return op >= 11 && op <= 13;
    }

    private static boolean isLast(int op) {
        return op == 11 || op == 19 || op == 22;
    }

    private boolean isGood(Told code) {
        int end = code.instructions.size();
        if (code.locals.size() < code.parameters || end == 0 || !isLast(code.instructions.get(end - 1)[0])) {
            return false;
        }
        Set<Integer> labels = new HashSet<>();
        Set<Integer> takers = new HashSet<>();
        for (int[] row : code.rows) {
            if (row[0] >= row[1] || row[1] > end || row[2] >= end) {
                return false;
            }
            labels.addAll(List.of(row[0], row[1], row[2]));
            takers.add(row[2]);
        }
        for (int[] one : code.instructions) {
            if (jumps(one[0])) {
                if (one[1] < 0 || one[1] >= end || takers.contains(one[1])) {
                    return false;
                }
                labels.add(one[1]);
            }
        }
        return kindsFit(code, labels, takers);
    }

    private boolean kindsFit(Told code, Set<Integer> labels, Set<Integer> takers) {
        String kinds = "";
        boolean goesOn = true;
        for (int place = 0; place < code.instructions.size(); place++) {
            int op = code.instructions.get(place)[0];
            boolean label = labels.contains(place);
            boolean taker = takers.contains(place);
            if (goesOn ? taker || label && !kinds.isEmpty() : !label) {
                return false;
            }
            kinds = after(code, code.instructions.get(place), goesOn ? kinds : taker ? "2" : "");
            if (kinds == null || (jumps(op) || op == 22) && !kinds.isEmpty()) {
                return false;
            }
            goesOn = !isLast(op);
        }
        return true;
    }

    /** The kinds behind an instruction, or null if it does not fit those before it. */
    private String after(Told code, int[] one, String kinds) {
        String top = kinds.isEmpty() ? NOT_THERE : kinds.substring(kinds.length() - 1);
        Told called = one[1] >= 0 && one[1] < codes.size() ? codes.get(one[1]) : null;
        String takes = switch (one[0]) {
            case 2, 3 -> top;
            case 9 -> "";
            case 10 -> code.kindOf(one[1]);
            case 18 -> called == null ? NOT_THERE : called.kindsOfParameters();
            case 22 -> code.kindOfResult();
            default -> TAKES[one[0]];
        };
        String gives = switch (one[0]) {
            case 2, 10, 22 -> "";
            case 3 -> top + top;
            case 9 -> code.kindOf(one[1]);
            case 18 -> called == null ? NOT_THERE : called.kindOfResult();
            default -> GIVES[one[0]];
        };
        if (!kinds.endsWith(takes) || gives.contains(NOT_THERE)) {
            return null;
        }
        String left = kinds.substring(0, kinds.length() - takes.length()) + gives;
        return left.length() > 12 ? null : left;
    }

    int thread(int c) {
        if (c < 0 || c >= codes.size()) {
            return -14;
        }
        if (codes.get(c).parameters != 0 || !allGood(c, new HashSet<>())) {
            return -1;
        }
        if (runners.size() == 8) {
            return -12;
        }
        Runner runner = new Runner(runners.size());
        runner.calls.add(new Call(codes.get(c)));
        runners.add(runner);
        open = null;
        return runner.number;
    }

    private boolean allGood(int c, Set<Integer> seen) {
        if (!seen.add(c)) {
            return true;
        }
        if (judge(c) != 1) {
            return false;
        }
        for (int[] one : codes.get(c).instructions) {
            if (one[0] == 18 && !allGood(one[1], seen)) {
                return false;
            }
        }
        return true;
    }

    private Runner runner(int t) {
        return t >= 0 && t < runners.size() ? runners.get(t) : null;
    }

    private Thing thing(int o) {
        return o >= 1 && o <= things.size() ? things.get(o - 1) : null;
    }

    int run(int t, int n) {
        Runner runner = runner(t);
        if (runner == null || n < 0 || n > 10000) {
            return -14;
        }
        for (int i = 0; i < n; i++) {
            if (runner.ended != 0) {
                return runner.ended;
            }
            if (waitsFor(runner) != 0) {
                return 3;
            }
            if (things.size() == 2000 || made == 40000) {
                return -12;
            }
            runner.tried = true;
            if (waitsFor(runner) != 0) {
                return 3;
            }
            step(runner);
        }
        return runner.ended != 0 ? runner.ended : waitsFor(runner) != 0 ? 3 : 0;
    }

    /** A thread waits once its enter was to be done, for as long as another one holds that monitor. */
    private int waitsFor(Runner runner) {
        Call top = runner.top();
        if (top == null || !runner.tried || top.code.instructions.get(top.at)[0] != 20) {
            return 0;
        }
        int o = top.values.get(top.values.size() - 1);
        return o == 0 || thing(o).holder == -1 || thing(o).holder == runner.number ? 0 : o;
    }

    private void step(Runner runner) {
        runner.steps++;
        runner.tried = false;
        Call top = runner.top();
        int[] one = top.code.instructions.get(top.at);
        try {
            if (jumps(one[0]) || one[0] == 18 || one[0] == 22) {
                go(runner, top, one[0], one[1]);
            } else {
                work(runner, top, one[0], one[1]);
                top.at++;
            }
        } catch (Thrown failure) {
            unwind(runner, failure.object);
        }
    }

    private void go(Runner runner, Call top, int op, int a) {
        if (op == 11) {
            top.at = a;
        } else if (jumps(op)) {
            top.at = top.take() == 0 ? a : top.at + 1;
        } else if (op == 18) {
            if (runner.calls.size() == 30) {
                throw new Thrown(make(9));
            }
            Call begun = new Call(codes.get(a));
            for (int i = begun.code.parameters - 1; i >= 0; i--) {
                begun.locals[i] = top.take();
            }
            runner.calls.add(begun);
        } else {
            runner.calls.remove(runner.calls.size() - 1);
            Call below = runner.top();
            if (below == null) {
                end(runner, 1, top.values.isEmpty() ? 0 : top.take());
            } else {
                below.values.addAll(top.values);
                below.at++;
            }
        }
    }

    private void work(Runner runner, Call top, int op, int a) {
        List<Integer> values = top.values;
        switch (op) {
            case 0 -> values.add(a);
            case 1 -> values.add(0);
            case 2 -> top.take();
            case 3 -> values.add(values.get(values.size() - 1));
            case 4, 5, 6, 7, 8 -> {
                long second = top.take();
                long first = top.take();
                values.add(computed(op, first, second));
            }
            case 9 -> values.add(top.locals[a]);
            case 10 -> top.locals[a] = top.take();
            case 14 -> values.add(make(a));
            case 15 -> {
                Thing thing = thing(top.take());
                values.add(thing != null && thing.kind == a ? 1 : 0);
            }
            case 16, 23 -> values.add(notNull(top.take()).fields[a]);
            case 17, 24 -> {
                int value = top.take();
                notNull(top.take()).fields[a] = value;
            }
            case 19 -> {
                int o = top.take();
                notNull(o);
                throw new Thrown(o);
            }
            case 20 -> {
                Thing thing = notNull(top.take());
                thing.holder = runner.number;
                thing.times++;
            }
            case 21 -> leave(runner, notNull(top.take()));
            case 25 -> values.add(globals[a]);
            default -> globals[a] = top.take();
        }
    }

    private int computed(int op, long first, long second) {
        if (op == 7 && second == 0) {
            throw new Thrown(make(7));
        }
        return switch (op) {
            case 4 -> (int) (first + second);
            case 5 -> (int) (first - second);
            case 6 -> (int) (first * second);
            case 7 -> (int) (first / second);
            default -> first < second ? 1 : 0;
        };
    }

    private void leave(Runner runner, Thing thing) {
        if (thing.holder != runner.number) {
            throw new Thrown(make(8));
        }
        thing.times--;
        if (thing.times == 0) {
            thing.holder = -1;
        }
    }

    private Thing notNull(int o) {
        if (o == 0) {
            throw new Thrown(make(6));
        }
        return thing(o);
    }

    private int make(int kind) {
        things.add(new Thing(kind));
        made++;
        return things.size();
    }

    private void unwind(Runner runner, int object) {
        int kind = thing(object).kind;
        while (!runner.calls.isEmpty()) {
            Call top = runner.top();
            for (int[] row : top.code.rows) {
                if (row[0] <= top.at && top.at < row[1] && (row[3] == 10 || row[3] == kind)) {
                    top.values.clear();
                    top.values.add(object);
                    top.at = row[2];
                    return;
                }
            }
            runner.calls.remove(runner.calls.size() - 1);
        }
        end(runner, 2, object);
    }

    private void end(Runner runner, int how, int with) {
        runner.ended = how;
        runner.endedWith = with;
        for (Thing thing : things) {
            if (thing.holder == runner.number) {
                thing.holder = -1;
                thing.times = 0;
            }
        }
    }

    int told(int t, int what) {
        Runner runner = runner(t);
        if (runner == null || what < 0 || what > 6) {
            return -14;
        }
        Call top = runner.top();
        return switch (what) {
            case 0 -> runner.steps;
            case 1 -> runner.calls.size();
            case 2 -> runner.endedWith;
            case 3 -> top == null ? -1 : codes.indexOf(top.code);
            case 4 -> top == null ? -1 : top.at;
            case 5 -> top == null ? 0 : top.values.size();
            default -> waitsFor(runner);
        };
    }

    int object(int o, int what) {
        Thing thing = thing(o);
        if (thing == null || what < 0 || what > 17 || what > 2 && what < 10) {
            return -14;
        }
        return what == 0 ? thing.kind : what == 1 ? thing.holder : what == 2 ? thing.times : thing.fields[what - 10];
    }

    int value(int t, int k) {
        Call top = runner(t) == null ? null : runner(t).top();
        if (top == null) {
            return 0;
        }
        if (k < 0) {
            return -1 - k < top.locals.length ? top.locals[-1 - k] : 0;
        }
        return k < top.values.size() ? top.values.get(top.values.size() - 1 - k) : 0;
    }

    int global(int i) {
        return i < 0 || i > 3 ? -14 : globals[i];
    }

    int stuck() {
        int count = 0;
        for (Runner runner : runners) {
            if (runner.ended == 0 && waitsFor(runner) == 0) {
                return 0;
            }
            count += runner.ended == 0 ? 1 : 0;
        }
        return count;
    }

    void reset() {
        runners.clear();
        things.clear();
        globals = new int[4];
        open = null;
    }
}
