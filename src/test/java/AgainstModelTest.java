import java.util.ArrayList;
import java.util.List;
import java.util.Random;

/** Many runs of 512 calls, the same for each start, with each answer beside the model's. */
public final class AgainstModelTest {
    private static final int RUNS = 600;
    private static final int CALLS = 512;
    /** After so many calls of a run all that there is to see is compared. */
    private static final int CALLS_BEFORE_LOOKS = 412;
    /** How often of 100 a run makes, ticks, delivers, loses, doubles, turns up or down; the rest looks. */
    private static final int[][] HABITS = {
        {20, 15, 40, 5, 5, 5},
        {40, 5, 45, 0, 2, 2},
        {10, 30, 20, 2, 10, 4},
        {30, 10, 30, 5, 5, 1},
        {60, 6, 30, 0, 0, 0},
    };

    private final Checks checks;
    private final Random random;
    private final String name;
    private final int[] habit;
    private final int heaviest;
    private final int n;
    private final int m;
    private final ChangeSync x;
    private final Model model;
    private final List<Edges.Call> called = new ArrayList<>();
    /** An object after the same calls, to look at, and how often it may still be called. */
    private ChangeSync seen;
    private int looksLeft;

    private AgainstModelTest(Checks checks, int run) {
        this.checks = checks;
        random = new Random(run);
        n = run % 10 == 0 ? random.nextInt(20) - 5 : 2 + random.nextInt(7);
        m = run % 10 == 1 ? random.nextInt(3000) - 500 : 16 + random.nextInt(run % 3 == 0 ? 1985 : 60);
        habit = HABITS[run % HABITS.length];
        heaviest = new int[] {5, 20, 60, 400}[random.nextInt(4)];
        name = "run " + run + " (" + n + ", " + m + ")";
        x = new ChangeSync(n, m);
        model = new Model(n, m);
    }

    public static void main(String[] args) {
        Checks checks = new Checks();
        for (int run = 0; run < RUNS; run++) {
            AgainstModelTest test = new AgainstModelTest(checks, run);
            for (int call = 0; call < CALLS; call++) {
                if (call == CALLS_BEFORE_LOOKS) {
                    test.wholeState();
                }
                test.oneCall(call);
            }
        }
        checks.end();
    }

    private void same(int call, String what, Edges.Call got, Checks.Call want) {
        called.add(got);
        checks.due(name + " call " + call + " " + what, Checks.outcome(() -> got.on(x)), Checks.outcome(want));
    }

    /** On objects that get the calls of the run again: none of them is called more than 512 times. */
    private void sameSeen(String what, Edges.Call got, Checks.Call want) {
        if (looksLeft == 0) {
            seen = new ChangeSync(n, m);
            for (Edges.Call call : called) {
                Checks.outcome(() -> call.on(seen));
            }
            looksLeft = CALLS - called.size();
        }
        looksLeft--;
        checks.due(name + " then " + what, Checks.outcome(() -> got.on(seen)), Checks.outcome(want));
    }

    private int replica() {
        return random.nextInt(40) == 0 ? random.nextInt(14) - 3 : random.nextInt(model.look(0));
    }

    /** Often one of the first or last places, so that both old and new messages arrive. */
    private int place() {
        int size = model.look(2);
        if (size == 0 || random.nextInt(40) == 0) {
            return random.nextInt(130) - 4;
        }
        int near = Math.min(size, 4);
        return switch (random.nextInt(3)) {
            case 0 -> random.nextInt(near);
            case 1 -> size - 1 - random.nextInt(near);
            default -> random.nextInt(size);
        };
    }

    private void oneCall(int call) {
        int dice = random.nextInt(100);
        int kind = 0;
        while (kind < habit.length && dice >= habit[kind]) {
            dice -= habit[kind];
            kind++;
        }
        int r = replica();
        int i = place();
        int weight = random.nextInt(40) == 0 ? random.nextInt(900) - 250 : 1 + random.nextInt(heaviest);
        boolean is = random.nextBoolean();
        switch (kind) {
            case 0 -> same(call, "make " + r + " " + weight, on -> on.make(r, weight), () -> model.make(r, weight));
            case 1 -> same(call, "tick " + r, on -> on.tick(r), () -> model.tick(r));
            case 2 -> same(call, "deliver " + i, on -> on.deliver(i), () -> model.deliver(i));
            case 3 -> same(call, "lose " + i, on -> on.lose(i) ? 1 : 0, () -> model.lose(i) ? 1 : 0);
            case 4 -> same(call, "twice " + i, on -> on.twice(i), () -> model.twice(i));
            case 5 -> same(call, "up " + r + " " + is, on -> on.up(r, is) ? 1 : 0, () -> model.up(r, is) ? 1 : 0);
            default -> oneLook(call, r, i);
        }
    }

    private void oneLook(int call, int r, int i) {
        int small = random.nextInt(12) - 2;
        int large = random.nextInt(130) - 5;
        switch (random.nextInt(8)) {
            case 0 -> same(call, "message " + i + " " + small, on -> on.message(i, small), () -> model.message(i, small));
            case 1 -> same(call, "inside " + i + " " + small, on -> on.inside(i, small), () -> model.inside(i, small));
            case 2 -> same(call, "told " + i, on -> on.told(i), () -> model.told(i));
            case 3 -> same(call, "clock " + r, on -> on.clock(r), () -> model.clock(r));
            case 4 -> same(call, "log " + r + " " + large, on -> on.log(r, large), () -> model.log(r, large));
            case 5 -> same(call, "weight " + r + " " + large, on -> on.weight(r, large), () -> model.weight(r, large));
            case 6 -> same(call, "lacks " + r, on -> on.lacks(r), () -> model.lacks(r));
            default -> same(call, "look " + small, on -> on.look(small), () -> model.look(small));
        }
    }

    private void wholeState() {
        for (int which = -1; which <= 9; which++) {
            int w = which;
            sameSeen("look " + w, on -> on.look(w), () -> model.look(w));
        }
        for (int replica = -1; replica <= model.look(0); replica++) {
            int r = replica;
            sameSeen("clock " + r, on -> on.clock(r), () -> model.clock(r));
            sameSeen("lacks " + r, on -> on.lacks(r), () -> model.lacks(r));
            for (int place = -1; place <= 480; place++) {
                int k = place;
                sameSeen("log " + r + " " + k, on -> on.log(r, k), () -> model.log(r, k));
            }
            for (int seq = 0; seq <= 61; seq++) {
                int s = seq;
                sameSeen("weight " + r + " " + s, on -> on.weight(r, s), () -> model.weight(r, s));
            }
        }
        for (int place = -1; place <= model.look(2); place++) {
            oneMessage(place);
        }
    }

    private void oneMessage(int i) {
        sameSeen("told " + i, on -> on.told(i), () -> model.told(i));
        for (int w = -1; w <= 5; w++) {
            int item = w;
            sameSeen("message " + i + " " + w, on -> on.message(i, item), () -> model.message(i, item));
        }
        int size = i < 0 || i >= model.look(2) ? 0 : Math.max(0, model.message(i, 4));
        for (int k = -1; k <= size; k++) {
            int place = k;
            sameSeen("inside " + i + " " + k, on -> on.inside(i, place), () -> model.inside(i, place));
        }
    }
}
