import java.util.ArrayList;
import java.util.List;

/** All that can be asked of a grid, in lists that are short enough to be asked behind a story. */
final class Questions {
    private static final int[] ALL_TARGETS = {0, 1, 2, 3, 4, 5, 6, 7, 8, 9, 10, 11, 12, 13};

    private Questions() { }

    static List<List<int[]>> all() {
        return List.of(targets(), entries(), graph(), rest(), future(), row());
    }

    /** What the latest build made of each action, and what is told of each target. */
    static List<int[]> targets() {
        List<int[]> calls = new ArrayList<>();
        for (int t : ALL_TARGETS) {
            for (int shard = 0; shard < 4; shard++) {
                calls.add(new int[] {Calls.STATE, t, shard});
                calls.add(new int[] {Calls.RESULT, t, shard});
            }
            for (int what = 0; what < 6; what++) {
                calls.add(new int[] {Calls.ABOUT, t, what});
            }
            calls.add(new int[] {Calls.PROOF, t});
        }
        return calls;
    }

    static List<int[]> entries() {
        List<int[]> calls = new ArrayList<>();
        calls.add(new int[] {Calls.ENTRIES});
        for (int entry = 0; entry <= 40; entry++) {
            for (int what = 0; what < 7; what++) {
                calls.add(new int[] {Calls.ENTRY, entry, what});
            }
        }
        return calls;
    }

    static List<int[]> graph() {
        List<int[]> calls = new ArrayList<>();
        for (int t : ALL_TARGETS) {
            calls.add(new int[] {Calls.NEEDED, t});
            for (int to : ALL_TARGETS) {
                calls.add(new int[] {Calls.STEPS, t, to});
            }
        }
        for (int thing = 0; thing < 30; thing++) {
            calls.add(new int[] {Calls.NEEDING, thing});
        }
        return calls;
    }

    /** Counts, changes and bisections; then what was before is read by telling something else. */
    static List<int[]> rest() {
        List<int[]> calls = new ArrayList<>();
        calls.add(new int[] {Calls.LOOKS});
        calls.add(new int[] {Calls.GOES_ON});
        calls.add(new int[] {Calls.CHANGES});
        for (int what = 0; what < 5; what++) {
            calls.add(new int[] {Calls.COUNT, what});
        }
        for (int t : ALL_TARGETS) {
            calls.add(new int[] {Calls.BISECT, t});
            calls.add(new int[] {Calls.LOOKS});
        }
        for (int i = 0; i < 4; i++) {
            calls.add(new int[] {Calls.SET, i, 9});
            calls.add(new int[] {Calls.SET_TOOL, i, 9});
            calls.add(new int[] {Calls.SET_POWER, i, 9});
        }
        for (int file = 0; file < 16; file++) {
            calls.add(new int[] {Calls.WRITE, file, 998});
        }
        calls.add(new int[] {Calls.CHANGES});
        calls.add(new int[] {Calls.PASS, 1});
        return calls;
    }

    /** How it goes on tick by tick; then a build of all that is told, so that what workers remember shows. */
    static List<int[]> future() {
        List<int[]> calls = new ArrayList<>();
        addTicks(calls, 24);
        calls.add(new int[] {Calls.PASS, 50});
        calls.add(new int[] {Calls.PASS, 50});
        for (int file = 0; file < 4; file++) {
            calls.add(new int[] {Calls.WRITE, file, 501 + file});
        }
        for (int told = 14; told > 0; told--) {
            calls.add(new int[] {Calls.BUILD, (1 << told) - 1});
        }
        addTicks(calls, 14);
        for (int what = 0; what < 5; what++) {
            calls.add(new int[] {Calls.COUNT, what});
        }
        return calls;
    }

    private static void addTicks(List<int[]> calls, int ticks) {
        for (int tick = 0; tick < ticks; tick++) {
            calls.add(new int[] {Calls.PASS, 1});
            calls.add(new int[] {Calls.GOES_ON});
            calls.add(new int[] {Calls.COUNT, 0});
            calls.add(new int[] {Calls.COUNT, 3});
            calls.add(new int[] {Calls.ENTRIES});
            calls.add(new int[] {Calls.ENTRY, 39, 0});
        }
    }

    /** What the row of inputs has, by the target that takes it. */
    static List<int[]> row() {
        List<int[]> calls = new ArrayList<>();
        for (int i = 0; i < 8; i++) {
            calls.add(new int[] {Calls.PASS, 50});
        }
        // The target comes first: an input would cover what a full row has.
        for (int option = 0; option < 2; option++) {
            calls.add(new int[] {Calls.TARGET, BuildGrid.LINK, 3, option, 1, 65535, 0});
            calls.add(new int[] {Calls.INPUT, 15, 1, 2, 3});
        }
        for (int t : ALL_TARGETS) {
            calls.add(new int[] {Calls.NEEDED, t});
            calls.add(new int[] {Calls.ABOUT, t, 4});
        }
        for (int setting = 0; setting < 4; setting++) {
            calls.add(new int[] {Calls.SET, setting, 3});
            for (int thing = 0; thing < 16; thing++) {
                calls.add(new int[] {Calls.NEEDING, thing});
            }
        }
        return calls;
    }
}
