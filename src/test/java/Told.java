import java.util.function.IntPredicate;

/** Short ways to tell targets, and to find a content with which an action comes out as a test wants it. */
final class Told {
    static final int NONE = BuildGrid.NONE;

    private Told() { }

    private static void inputs(BuildGrid grid, int... things) {
        for (int thing : things) {
            grid.input(thing, NONE, 0, 0);
        }
    }

    static int compile(BuildGrid grid, int tool, int option, int... things) {
        inputs(grid, things);
        return grid.target(BuildGrid.COMPILE, tool, option, 1, NONE, 0);
    }

    static int link(BuildGrid grid, int tool, int option, int... things) {
        inputs(grid, things);
        return grid.target(BuildGrid.LINK, tool, option, 1, NONE, 0);
    }

    static int finder(BuildGrid grid, int files, int... things) {
        inputs(grid, things);
        return grid.target(BuildGrid.COMPILE, 0, 0, 1, files, 0);
    }

    static int test(BuildGrid grid, int shards, int flakiness, int... things) {
        inputs(grid, things);
        return grid.target(BuildGrid.TEST, 0, 1, shards, NONE, flakiness);
    }

    /** A copy with another option, so that no key is the same. */
    static int copyAway(BuildGrid grid, int target) {
        return grid.copy(target, 9);
    }

    /** The key, and so the result, of a shard of a TEST with tool 0 and option 1 that reads one file; good with 0. */
    static int testKey(int shard, int content) {
        return Expect.sum(2, 0, 0, 1, shard, content);
    }

    static int compileKey(int tool, int option, int... digests) {
        int sum = Expect.sum(0, tool, 0, option, 0);
        for (int digest : digests) {
            sum = Expect.plus(sum, digest);
        }
        return sum;
    }

    static boolean isGood(int key) {
        return key % 4 != 0;
    }

    static boolean fails(int key, int attempt, int flakiness) {
        return !isGood(key) || (3 * attempt + key) % 5 < flakiness;
    }

    static int content(IntPredicate fits) {
        for (int content = 0; content < 1000; content++) {
            if (fits.test(content)) {
                return content;
            }
        }
        throw new IllegalStateException("no content fits");
    }

    static void passAll(BuildGrid grid) {
        for (int i = 0; i < 40 && grid.goesOn(); i++) {
            grid.pass(50);
        }
    }

    static void buildAll(BuildGrid grid, int roots) {
        grid.build(roots);
        passAll(grid);
    }
}
