import java.util.Random;

/**
 * Runs of random calls on BuildGrid and on Model, with fixed seeds; all that can be asked is compared.
 * An argument says how many runs there are.
 */
public final class ModelTest {
    private static final int RUNS = 200;
    private static final int CALLS = 400;
    private static final int MUTATING = 13, ALL = 26;

    private static long compared;
    private static final long[] reached = new long[8];

    private ModelTest() { }

    public static void main(String[] args) {
        int runs = args.length > 0 ? Integer.parseInt(args[0]) : RUNS;
        for (int seed = 1; seed <= runs; seed++) {
            if (!run(seed)) {
                System.out.println("ModelTest: 0 passed, 1 failed");
                System.exit(1);
            }
        }
        boolean covers = true;
        String[] what = {"begun", "hits", "in vain", "failed", "flakes", "quarantines", "bisections with looks",
            "full caches"};
        for (int i = 0; i < what.length; i++) {
            if (reached[i] == 0) {
                covers = false;
                System.out.println("ModelTest: no run reached " + what[i]);
            }
        }
        System.out.println("ModelTest compared " + compared + " answers; begun, hits, in vain, failed, flakes, "
            + "quarantines, bisections, full caches: " + java.util.Arrays.toString(reached));
        System.out.println("ModelTest: " + (covers ? "1 passed, 0 failed" : "0 passed, 1 failed"));
        if (!covers) {
            System.exit(1);
        }
    }

    private static boolean run(int seed) {
        Random random = new Random(seed);
        BuildGrid grid = new BuildGrid();
        Model model = new Model();
        StringBuilder told = new StringBuilder();
        Shape shape = new Shape(random);
        for (int i = 0; i < CALLS; i++) {
            int[] call = shape.next(model.goesOn(), model.told());
            if (!same(seed, told, grid, model, call)) {
                return false;
            }
            if (call[0] < MUTATING && random.nextInt(4) == 0 && !sameAll(seed, told, grid, model)) {
                return false;
            }
        }
        for (int i = 0; i < 5; i++) {
            reached[i] += grid.count(i);
        }
        reached[7] += grid.entries() == 40 ? 1 : 0;
        return sameAll(seed, told, grid, model);
    }

    private static boolean same(int seed, StringBuilder told, BuildGrid grid, Model model, int... call) {
        String got = answer(grid, null, call);
        String due = answer(null, model, call);
        compared++;
        if (call[0] < MUTATING || call[0] == 24) {
            told.append(name(call)).append(" -> ").append(due).append('\n');
        }
        if (!got.equals(due)) {
            System.out.println("seed " + seed + ":\n" + told + name(call) + " answered " + got + ", due is " + due);
            return false;
        }
        return true;
    }

    private static boolean sameAll(int seed, StringBuilder told, BuildGrid grid, Model model) {
        boolean all = same(seed, told, grid, model, 13) && same(seed, told, grid, model, 14)
            && same(seed, told, grid, model, 23) && same(seed, told, grid, model, 25);
        for (int i = 0; i < 5 && all; i++) {
            all = same(seed, told, grid, model, 19, i);
        }
        for (int t = 0; t < 14 && all; t++) {
            all = sameTarget(seed, told, grid, model, t);
        }
        for (int e = 0; e <= grid.entries() && all; e++) {
            for (int what = 0; what < 7 && all; what++) {
                all = same(seed, told, grid, model, 15, e, what);
            }
        }
        for (int thing = 0; thing < 30 && all; thing++) {
            all = same(seed, told, grid, model, 21, thing);
        }
        return all;
    }

    private static boolean sameTarget(int seed, StringBuilder told, BuildGrid grid, Model model, int t) {
        boolean all = same(seed, told, grid, model, 18, t) && same(seed, told, grid, model, 20, t);
        for (int i = 0; i < 6 && all; i++) {
            all = same(seed, told, grid, model, 17, t, i);
        }
        for (int shard = 0; shard < 4 && all; shard++) {
            all = same(seed, told, grid, model, 16, t, shard) && same(seed, told, grid, model, 12 + 14, t, shard);
        }
        for (int to = 0; to < 14 && all; to++) {
            all = same(seed, told, grid, model, 22, t, to);
        }
        all = all && same(seed, told, grid, model, 24, t) && same(seed, told, grid, model, 25);
        if (all && answer(null, model, 17, t, 2).equals("1")) {
            reached[5]++;
        }
        if (all && !answer(null, model, 25).equals("0")) {
            reached[6]++;
        }
        return all;
    }

    private static String name(int... call) {
        String[] names = {"write", "set", "setTool", "input", "target", "copy", "setPower", "setWays", "lie", "lose",
            "build", "pass", "pass", "entries", "goesOn", "entry", "state", "about", "proof", "count", "needed",
            "needing", "steps", "changes", "bisect", "looks", "result"};
        StringBuilder text = new StringBuilder(names[call[0]]).append('(');
        for (int i = 1; i < call.length; i++) {
            text.append(i > 1 ? ", " : "").append(call[i]);
        }
        return text.append(')').toString();
    }

    /** One of the two objects is null: the other one is asked. */
    private static String answer(BuildGrid g, Model m, int... c) {
        try {
            return String.valueOf(g != null ? ask(g, c) : ask(m, c));
        } catch (IllegalArgumentException | IllegalStateException | IndexOutOfBoundsException e) {
            return "throws." + e.getClass().getSimpleName();
        }
    }

    private static int ask(BuildGrid g, int... c) {
        switch (c[0]) {
            case 0: return g.write(c[1], c[2]);
            case 1: return g.set(c[1], c[2]);
            case 2: return g.setTool(c[1], c[2]);
            case 3: return g.input(c[1], c[2], c[3], c[4]);
            case 4: return g.target(c[1], c[2], c[3], c[4], c[5], c[6]);
            case 5: return g.copy(c[1], c[2]);
            case 6: return g.setPower(c[1], c[2]);
            case 7: g.setWays(c[1] == 1, c[2] == 1); return 0;
            case 8: g.lie(c[1], c[2]); return 0;
            case 9: return g.lose(c[1]) ? 1 : 0;
            case 10: return g.build(c[1]);
            case 11: case 12: return g.pass(c[1]);
            case 13: return g.entries();
            case 14: return g.goesOn() ? 1 : 0;
            case 15: return g.entry(c[1], c[2]);
            case 16: return g.state(c[1], c[2]);
            case 17: return g.about(c[1], c[2]);
            case 18: return g.proof(c[1]);
            case 19: return g.count(c[1]);
            case 20: return g.needed(c[1]);
            case 21: return g.needing(c[1]);
            case 22: return g.steps(c[1], c[2]);
            case 23: return g.changes();
            case 24: return g.bisect(c[1]);
            case 25: return g.looks();
            default: return g.result(c[1], c[2]);
        }
    }

    private static int ask(Model m, int... c) {
        switch (c[0]) {
            case 0: return m.write(c[1], c[2]);
            case 1: return m.set(c[1], c[2]);
            case 2: return m.setTool(c[1], c[2]);
            case 3: return m.input(c[1], c[2], c[3], c[4]);
            case 4: return m.target(c[1], c[2], c[3], c[4], c[5], c[6]);
            case 5: return m.copy(c[1], c[2]);
            case 6: return m.setPower(c[1], c[2]);
            case 7: m.setWays(c[1] == 1, c[2] == 1); return 0;
            case 8: m.lie(c[1], c[2]); return 0;
            case 9: return m.lose(c[1]) ? 1 : 0;
            case 10: return m.build(c[1]);
            case 11: case 12: return m.pass(c[1]);
            case 13: return m.entries();
            case 14: return m.goesOn() ? 1 : 0;
            case 15: return m.entry(c[1], c[2]);
            case 16: return m.state(c[1], c[2]);
            case 17: return m.about(c[1], c[2]);
            case 18: return m.proof(c[1]);
            case 19: return m.count(c[1]);
            case 20: return m.needed(c[1]);
            case 21: return m.needing(c[1]);
            case 22: return m.steps(c[1], c[2]);
            case 23: return m.changes();
            case 24: return m.bisect(c[1]);
            case 25: return m.looks();
            default: return m.result(c[1], c[2]);
        }
    }

    /** What calls a run is made of; each run has leanings of its own, so that rare things come together. */
    private static final class Shape {
        private static final int[] EXTREMES = {Integer.MIN_VALUE, -2, -1, 0, 1, 4, 14, 15, 16, 17, 30, 40, 51, 1000,
            65536, 100003, Integer.MAX_VALUE};

        private final Random random;
        private final int contents;
        private final int wild;
        private final boolean tests;
        private final int finds;
        private int told;

        Shape(Random random) {
            this.random = random;
            contents = 1 + random.nextInt(random.nextBoolean() ? 3 : 1000);
            wild = random.nextInt(20);
            tests = random.nextBoolean();
            finds = random.nextInt(3);
        }

        private int pick(int... of) {
            return of[random.nextInt(of.length)];
        }

        private int upTo(int n) {
            return random.nextInt(n + 1);
        }

        int[] next(boolean goesOn, int told) {
            this.told = told;
            int[] call = plain(goesOn);
            if (random.nextInt(200) < wild && call.length > 1) {
                call[1 + random.nextInt(call.length - 1)] = pick(EXTREMES);
            }
            return call;
        }

        private int[] plain(boolean goesOn) {
            int dice = upTo(99);
            if (dice < 12 && told < 14) {
                return dice < 7 ? anInput() : aTarget();
            }
            if (dice < 30) {
                return new int[] {0, upTo(random.nextInt(4) == 0 ? 15 : 3), upTo(contents - 1)};
            }
            if (dice < 36) {
                return new int[] {pick(1, 1, 2), upTo(3), upTo(2)};
            }
            if (dice < 44) {
                return new int[] {6, upTo(3), pick(0, 0, 1, 2, 3, 5, 9)};
            }
            if (dice < 48) {
                return new int[] {7, upTo(1), upTo(1)};
            }
            if (dice < 52) {
                return dice < 50 ? new int[] {8, upTo(20), upTo(100002)} : new int[] {9, upTo(20)};
            }
            if (dice < 65 && !goesOn) {
                return new int[] {10, told == 0 ? 1 : 1 + random.nextInt((1 << told) - 1) & (1 << told) - 1};
            }
            if (dice < 95) {
                return new int[] {11, pick(1, 1, 2, 3, 5, 8, 50)};
            }
            return new int[] {24, upTo(Math.max(0, told - 1))};
        }

        private int aThing() {
            return told > 0 && random.nextInt(3) == 0 ? 16 + random.nextInt(told) : upTo(3);
        }

        private int[] anInput() {
            return random.nextInt(3) > 0 ? new int[] {3, aThing(), -1, 0, 0}
                : new int[] {3, aThing(), aThing(), upTo(3), upTo(2)};
        }

        private int[] aTarget() {
            if (told > 0 && random.nextInt(5) == 0) {
                return new int[] {5, random.nextInt(told), upTo(2)};
            }
            int kind = tests ? 2 : upTo(2);
            int set = finds == 0 ? -1 : pick(-1, upTo(65535), 65535, 65535 ^ 1 << upTo(15));
            return new int[] {4, kind, upTo(1), upTo(1), kind == 2 ? 1 + upTo(3) : 1, set, kind == 2 ? upTo(3) : 0};
        }
    }
}
