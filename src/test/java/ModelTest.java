import java.util.ArrayList;
import java.util.List;
import java.util.Random;

/**
 * Runs of random calls on BuildGrid and on Model, with fixed seeds; no object gets more calls than the document says
 * it is used for, so the questions at the end of a run are asked of objects to which the run is told again.
 * An argument says how many runs there are.
 */
public final class ModelTest {
    private static final int RUNS = 1000;
    private static final int TELLING_CALLS = 220;

    private static final String[] REACHED = {"begun", "hits", "in vain", "failed", "flakes", "quarantines",
        "bisections with looks", "full caches", "all changes kept", "all targets told"};
    private static final long[] reached = new long[REACHED.length];
    private static long compared;

    private ModelTest() { }

    public static void main(String[] args) {
        int runs = args.length > 0 ? Integer.parseInt(args[0]) : RUNS;
        boolean isSame = true;
        for (int seed = 1; seed <= runs && isSame; seed++) {
            isSame = run(seed);
        }
        for (int i = 0; i < reached.length; i++) {
            if (reached[i] == 0) {
                isSame = false;
                System.out.println("ModelTest: no run reached " + REACHED[i]);
            }
        }
        System.out.println("ModelTest compared " + compared + " answers in " + runs + " runs; "
            + java.util.Arrays.toString(REACHED) + ": " + java.util.Arrays.toString(reached));
        System.out.println("ModelTest: " + (isSame ? "1 passed, 0 failed" : "0 passed, 1 failed"));
        if (!isSame) {
            System.exit(1);
        }
    }

    private static boolean run(int seed) {
        Random random = new Random(seed);
        Shape shape = new Shape(random);
        BuildGrid grid = new BuildGrid();
        Model model = new Model();
        List<int[]> told = new ArrayList<>();
        for (int i = 0; i < Calls.MOST && told.size() < TELLING_CALLS; i++) {
            int[] call = random.nextInt(5) < 2 ? shape.next(model) : aQuestion(random);
            if (call[0] <= Calls.BISECT) {
                told.add(call);
            }
            if (!same(seed, told, grid, model, call)) {
                return false;
            }
        }
        for (int what = 0; what < 5; what++) {
            reached[what] += model.count(what);
        }
        reached[7] += model.entries() == 40 ? 1 : 0;
        reached[8] += model.changes() == 30 ? 1 : 0;
        reached[9] += model.told() == 14 ? 1 : 0;
        boolean isSame = sameBehind(seed, told, model, Questions.targets())
            && sameBehind(seed, told, model, Questions.entries()) && sameBehind(seed, told, model, Questions.graph());
        // The others tell something themselves: one of them is the last that the model is asked.
        List<List<int[]>> telling = List.of(Questions.rest(), Questions.future(), Questions.row());
        return isSame && sameBehind(seed, told, model, telling.get(seed % telling.size()));
    }

    private static boolean sameBehind(int seed, List<int[]> told, Model model, List<int[]> questions) {
        if (told.size() + questions.size() > Calls.MOST) {
            System.out.println("seed " + seed + ": more calls than an object is used for");
            return false;
        }
        BuildGrid grid = new BuildGrid();
        for (int[] call : told) {
            Calls.answer(grid, call);
        }
        for (int[] question : questions) {
            if (!same(seed, told, grid, model, question)) {
                return false;
            }
        }
        return true;
    }

    private static boolean same(int seed, List<int[]> told, BuildGrid grid, Model model, int[] call) {
        String due = Calls.answer(model, call);
        String got = Calls.answer(grid, call);
        compared++;
        if (call[0] == Calls.ABOUT && call[2] == 2 && due.equals("1")) {
            reached[5]++;
        }
        if (call[0] == Calls.LOOKS && !due.equals("0")) {
            reached[6]++;
        }
        if (got.equals(due)) {
            return true;
        }
        System.out.println("seed " + seed + ":");
        for (int[] before : told) {
            System.out.println(Calls.text(before));
        }
        System.out.println(Calls.text(call) + " answered " + got + ", due is " + due);
        return false;
    }

    private static int[] aQuestion(Random random) {
        int target = random.nextInt(random.nextBoolean() ? 4 : 14);
        switch (random.nextInt(10)) {
            case 0: return new int[] {Calls.COUNT, random.nextInt(5)};
            case 1: case 2: return new int[] {Calls.STATE, target, random.nextInt(4)};
            case 3: case 4: return new int[] {Calls.RESULT, target, random.nextInt(4)};
            case 5: case 6: return new int[] {Calls.ABOUT, target, random.nextInt(6)};
            case 7: return new int[] {Calls.PROOF, target};
            case 8: return new int[] {Calls.ENTRY, random.nextInt(random.nextBoolean() ? 4 : 41), random.nextInt(7)};
            default: return new int[] {Calls.ENTRIES + (random.nextBoolean() ? 0 : 2)};
        }
    }

    /** What calls a run is made of; each run has leanings of its own, so that rare things come together. */
    private static final class Shape {
        private static final int[] EXTREMES = {Integer.MIN_VALUE, -2, -1, 0, 1, 4, 14, 15, 16, 17, 30, 40, 51, 1000,
            65536, 100003, Integer.MAX_VALUE};

        private final Random random;
        private final int contents;
        private final int wild;
        private final boolean tests;
        private final int finds;
        /** Many targets are told at the beginning, and whole builds follow one another. */
        private final boolean hurries;
        /** Many targets have the key of another one, many entries its result. */
        private final boolean isAlike;
        private Model model;
        private int told;

        Shape(Random random) {
            this.random = random;
            contents = 1 + random.nextInt(random.nextBoolean() ? 3 : 1000);
            wild = random.nextInt(20);
            tests = random.nextBoolean();
            finds = random.nextInt(3);
            hurries = random.nextInt(3) == 0;
            isAlike = random.nextInt(3) == 0;
        }

        private int pick(int... of) {
            return of[random.nextInt(of.length)];
        }

        private int upTo(int n) {
            return random.nextInt(n + 1);
        }

        int[] next(Model model) {
            this.model = model;
            told = model.told();
            int[] call = plain(model.goesOn());
            if (random.nextInt(200) < wild && call.length > 1) {
                call[1 + random.nextInt(call.length - 1)] = pick(EXTREMES);
            }
            return call;
        }

        private int[] plain(boolean goesOn) {
            int dice = upTo(99);
            if (hurries && told < 14 && dice < 80) {
                return dice < 45 ? anInput() : aTarget();
            }
            if (hurries && dice >= 30 && dice < 90) {
                return goesOn ? new int[] {Calls.PASS, 50} : new int[] {Calls.BUILD, (1 << told) - 1};
            }
            if (dice < 12 && told < 14) {
                return dice < 7 ? anInput() : aTarget();
            }
            if (dice < 30) {
                return new int[] {Calls.WRITE, upTo(random.nextInt(4) == 0 ? 15 : 3), upTo(contents - 1)};
            }
            if (dice < 36) {
                return new int[] {pick(Calls.SET, Calls.SET, Calls.SET_TOOL), upTo(3), upTo(2)};
            }
            if (dice < 44) {
                return new int[] {Calls.SET_POWER, upTo(3), pick(0, 0, 1, 2, 3, 5, 9)};
            }
            if (dice < 48) {
                return new int[] {Calls.SET_WAYS, upTo(1), upTo(1)};
            }
            if (dice < 52) {
                return dice < 50 ? new int[] {Calls.LIE, upTo(20), aResult()} : new int[] {Calls.LOSE, upTo(20)};
            }
            if (dice < 65 && !goesOn) {
                return new int[] {Calls.BUILD, told == 0 ? 1 : 1 + random.nextInt((1 << told) - 1) & (1 << told) - 1};
            }
            if (dice < 95) {
                return new int[] {Calls.PASS, pick(1, 1, 2, 3, 5, 8, 50)};
            }
            return new int[] {Calls.BISECT, upTo(Math.max(0, told - 1))};
        }

        private int aThing() {
            return told > 0 && random.nextInt(3) == 0 ? 16 + random.nextInt(told) : upTo(3);
        }

        private int aResult() {
            boolean isAnothers = model.entries() > 0 && random.nextBoolean();
            return isAnothers ? model.entry(random.nextInt(model.entries()), 3) : upTo(100002);
        }

        private int[] anInput() {
            return random.nextInt(3) > 0 ? new int[] {Calls.INPUT, aThing(), -1, 0, 0}
                : new int[] {Calls.INPUT, aThing(), aThing(), upTo(3), upTo(2)};
        }

        private int[] aTarget() {
            if (told > 0 && random.nextInt(isAlike ? 2 : 5) == 0) {
                return new int[] {Calls.COPY, random.nextInt(told), isAlike ? 0 : upTo(2)};
            }
            int kind = tests ? 2 : upTo(2);
            int set = finds == 0 ? -1 : pick(-1, upTo(65535), 65535, 65535 ^ 1 << upTo(15));
            boolean isTest = kind == 2;
            int shards = isTest ? 1 + upTo(3) : 1;
            int option = isAlike ? 0 : upTo(1);
            return new int[] {Calls.TARGET, kind, pick(0, 0, 1, 1, 2, 3), option, shards, set, isTest ? upTo(3) : 0};
        }
    }
}
