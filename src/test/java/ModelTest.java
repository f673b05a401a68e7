import java.util.ArrayList;
import java.util.List;
import java.util.Random;
import java.util.TreeMap;

/**
 * The class held against Model, call by call: codes made up by chance, good ones and ones with a slip, are told,
 * judged and run by several threads, with wrong calls in between.
 */
public final class ModelTest {
    private static final int OBJECTS = 10000;
    private static final int CALLS = 512;
    private static final int MOST_WRONG = 20;

    private static final TreeMap<String, Integer> seen = new TreeMap<>();
    private static int wrong = 0;

    private final Random random;
    private final JudgedCodes x = new JudgedCodes();
    private final Model model = new Model();
    private final List<String> calls = new ArrayList<>();
    private boolean fails = false;
    private int codes = 0;
    private int threads = 0;

    private ModelTest(long seed) {
        random = new Random(seed);
    }

    public static void main(String[] args) {
        for (int seed = 0; seed < OBJECTS && wrong < MOST_WRONG; seed++) {
            new ModelTest(seed).live();
        }
        Check.due("runs that differ from the model", wrong, 0);
        sawEnough("judge 0", 1000);
        sawEnough("judge 1", 10000);
        sawEnough("thread -1", 1000);
        sawEnough("thread -12", 100);
        sawEnough("run 0", 10000);
        sawEnough("run 1", 10000);
        sawEnough("run 2", 10000);
        sawEnough("run 3", 10000);
        sawEnough("run -12", 1000);
        sawEnough("run -14", 100);
        sawEnough("a failure was taken", 1000);
        sawEnough("frames 30", 100);
        for (int count = 2; count <= 8; count++) {
            sawEnough("stuck " + count, 1);
        }
        Check.end();
    }

    /** A test that never comes to what it is to try would pass for nothing. */
    private static void sawEnough(String what, int least) {
        int count = seen.getOrDefault(what, 0);
        Check.due(what + ", seen " + count + " times, at least " + least, count >= least ? 1 : 0, 1);
    }

    private void live() {
        tellCodes();
        while (calls.size() < CALLS && !fails) {
            if (random.nextInt(60) == 0) {
                startAnew();
            }
            beginThreads();
            for (int i = 0; i < 20 && !fails; i++) {
                runSome();
                look();
            }
        }
    }

    private void startAnew() {
        calls.add("reset()");
        x.reset();
        model.reset();
        threads = 0;
        codes = 0;
        while (model.judge(codes) != -14) {
            codes++;
        }
        if (random.nextInt(3) == 0) {
            tellCodes();
        }
    }

    private void tellCodes() {
        List<Draft> drafts = new ArrayList<>();
        int count = 1 + random.nextInt(4);
        for (int i = 0; i < count; i++) {
            drafts.add(new Draft(random, i == 0 ? 0 : random.nextInt(2) * random.nextInt(4)));
        }
        for (Draft draft : drafts) {
            draft.grow(drafts, codes);
            if (random.nextInt(5) == 0) {
                slip(draft);
            }
        }
        for (Draft draft : drafts) {
            tellCode(draft);
        }
        for (int c = -1; c <= codes; c++) {
            call("judge", c);
        }
    }

    private void tellCode(Draft draft) {
        call("code", draft.parameters, draft.result);
        codes++;
        for (int kind : draft.locals) {
            call("local", kind);
        }
        for (int[] one : draft.body) {
            call("add", one);
        }
        for (int[] row : draft.rows) {
            call("row", row);
        }
        if (random.nextInt(6) == 0) {
            tellAnything(random.nextInt(3));
        }
    }

    private void tellAnything(int which) {
        int times = random.nextInt(20) == 0 ? 60 : 1;
        for (int i = 0; i < times; i++) {
            switch (which) {
                case 0 -> call("add", near(26), near(9));
                case 1 -> call("row", near(60), near(60), near(60), near(10));
                case 2 -> call("local", near(2));
                default -> codes += call("code", near(8), near(2)) >= 0 ? 1 : 0;
            }
        }
    }

    /** One thing told otherwise, which may make the code one that is not good. */
    private void slip(Draft draft) {
        int size = draft.body.size();
        int[] one = draft.body.get(random.nextInt(size));
        switch (random.nextInt(8)) {
            case 0 -> one[0] = random.nextInt(27);
            case 1 -> one[1] += random.nextInt(3) - 1;
            case 2 -> one[1] = random.nextInt(size + 1);
            case 3 -> draft.body.remove(one);
            case 4 -> draft.body.add(random.nextInt(size + 1), one.clone());
            case 5 -> draft.locals.add(0, 1 + random.nextInt(2));
            default -> slipInRow(draft, size);
        }
    }

    private void slipInRow(Draft draft, int size) {
        if (!draft.rows.isEmpty()) {
            int[] row = draft.rows.get(random.nextInt(draft.rows.size()));
            int which = random.nextInt(4);
            row[which] = random.nextBoolean() ? row[random.nextInt(4)] : random.nextInt(size + 2);
        }
    }

    private int near(int most) {
        return random.nextInt(20) == 0 ? random.nextInt() : random.nextInt(most + 3) - 1;
    }

    private void beginThreads() {
        int count = threads == 0 ? 1 + random.nextInt(16) : random.nextInt(10) == 0 ? 1 : 0;
        for (int i = 0; i < count; i++) {
            threads += call("thread", random.nextInt(codes + 1)) >= 0 ? 1 : 0;
        }
    }

    private void runSome() {
        int t = random.nextInt(Math.max(1, threads));
        int n = switch (random.nextInt(100)) {
            case 0 -> 10000;
            case 1 -> near(10000);
            case 2, 3 -> 200;
            case 4, 5, 6 -> 0;
            default -> 1 + random.nextInt(1 + random.nextInt(30));
        };
        call("run", random.nextInt(100) == 0 ? near(8) : t, n);
    }

    private void look() {
        int t = random.nextInt(Math.max(1, threads));
        call("told", t, random.nextInt(7));
        call("value", t, random.nextInt(4) - 2);
        switch (random.nextInt(50) == 0 ? 9 : random.nextInt(7)) {
            case 9 -> tellAnything(random.nextInt(4));
            case 0 -> call("told", near(8), near(6));
            case 1 -> call("object", 1 + random.nextInt(12), random.nextInt(3));
            case 2 -> call("object", random.nextInt(4), random.nextInt(20));
            case 5 -> call("object", near(2000), near(17));
            case 3 -> call("value", t, random.nextInt(22) - 9);
            default -> call("global", near(3));
        }
        call("stuck");
    }

    private int call(String name, int... a) {
        if (fails || calls.size() >= CALLS) {
            return -14;
        }
        int due = due(name, a);
        int got = got(name, a);
        StringBuilder text = new StringBuilder(name).append('(');
        for (int i = 0; i < a.length; i++) {
            text.append(i == 0 ? "" : ", ").append(a[i]);
        }
        calls.add(text.append(") -> ").append(due).toString());
        remark(name, a, due);
        if (got != due) {
            fails = true;
            wrong++;
            System.out.println(String.join("\n", calls) + "\nthe last one answered " + got);
        }
        return due;
    }

    private void remark(String name, int[] a, int due) {
        seen.merge(name + " " + due, 1, Integer::sum);
        if (name.equals("run") && due >= 0 && model.told(a[0], 1) == 30) {
            seen.merge("frames 30", 1, Integer::sum);
        }
        if (name.equals("run") && due == 0 && model.told(a[0], 5) == 1 && model.object(model.value(a[0], 0), 0) >= 6) {
            seen.merge("a failure was taken", 1, Integer::sum);
        }
    }

    private int due(String name, int[] a) {
        return switch (name) {
            case "code" -> model.code(a[0], a[1]);
            case "local" -> model.local(a[0]);
            case "add" -> model.add(a[0], a[1]);
            case "row" -> model.row(a[0], a[1], a[2], a[3]);
            case "judge" -> model.judge(a[0]);
            case "thread" -> model.thread(a[0]);
            case "run" -> model.run(a[0], a[1]);
            case "told" -> model.told(a[0], a[1]);
            case "object" -> model.object(a[0], a[1]);
            case "value" -> model.value(a[0], a[1]);
            case "global" -> model.global(a[0]);
            default -> model.stuck();
        };
    }

    private int got(String name, int[] a) {
        return switch (name) {
            case "code" -> x.code(a[0], a[1]);
            case "local" -> x.local(a[0]);
            case "add" -> x.add(a[0], a[1]);
            case "row" -> x.row(a[0], a[1], a[2], a[3]);
            case "judge" -> x.judge(a[0]);
            case "thread" -> x.thread(a[0]);
            case "run" -> x.run(a[0], a[1]);
            case "told" -> x.told(a[0], a[1]);
            case "object" -> x.object(a[0], a[1]);
            case "value" -> x.value(a[0], a[1]);
            case "global" -> x.global(a[0]);
            default -> x.stuck();
        };
    }
}
