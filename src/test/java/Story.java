import java.util.ArrayList;
import java.util.List;

/** Calls that lead a new grid into a state that matters, kept so that they can be told again to another one. */
final class Story {
    static final int FULL_OF_TARGETS = 14, FULL_ROW = 4;

    final String name;
    final List<int[]> calls = new ArrayList<>();
    /** The shards of each target that is told. */
    int[] shards = {};
    int row;
    int entries;
    int changes;
    int looks;
    /** What the first action of each target is, as far as that is told here. */
    int[] states = {};
    boolean goesOn;
    /** Bit t for a target t whose proof can be asked for. */
    int proved;

    private Story(String name) {
        this.name = name;
    }

    static List<Story> all() {
        return List.of(nothingTold(), someTold(), allWarm(), inABuild(), full(), fullInABuild());
    }

    int told() {
        return shards.length;
    }

    BuildGrid tell() {
        BuildGrid grid = new BuildGrid();
        for (int[] call : calls) {
            Calls.answer(grid, call);
        }
        return grid;
    }

    private void add(int... call) {
        calls.add(call);
    }

    private void target(int kind, int tool, int shards, int finds, int flakiness, int... inputs) {
        for (int thing : inputs) {
            add(Calls.INPUT, thing, BuildGrid.NONE, 0, 0);
        }
        add(Calls.TARGET, kind, tool, 1, shards, finds, flakiness);
        int[] more = java.util.Arrays.copyOf(this.shards, this.shards.length + 1);
        more[more.length - 1] = shards;
        this.shards = more;
    }

    private void rowOf(int... things) {
        for (int thing : things) {
            add(Calls.INPUT, thing, 3, 2, 1);
        }
        row = things.length;
    }

    static Story nothingTold() {
        return new Story("a new object");
    }

    /** One build is over; signatures are not looked at, one entry lies, of one the part is gone. */
    static Story someTold() {
        Story story = new Story("some told");
        story.add(Calls.WRITE, 0, 5);
        story.add(Calls.WRITE, 15, 999);
        story.add(Calls.SET, 2, 1);
        story.add(Calls.SET_TOOL, 1, 3);
        story.target(BuildGrid.COMPILE, 0, 1, BuildGrid.NONE, 0, 0);
        story.target(BuildGrid.TEST, 1, 4, 65535, 2, 1, 16);
        story.add(Calls.INPUT, 17, 16, 2, 0);
        story.target(BuildGrid.LINK, 2, 1, BuildGrid.NONE, 0, 15);
        story.add(Calls.SET_POWER, 1, 4);
        story.add(Calls.BUILD, 0b101);
        story.add(Calls.PASS, 50);
        story.add(Calls.LIE, 0, 77);
        story.add(Calls.LOSE, 1);
        story.add(Calls.SET_WAYS, 0, 1);
        story.add(Calls.BISECT, 1);
        story.rowOf(17, 2);
        story.entries = 2;
        story.changes = 2;
        story.states = new int[] {BuildGrid.DONE, BuildGrid.NONE, BuildGrid.DONE};
        story.proved = 0b101;
        return story;
    }

    /** Each worker is idle and warm, the latest bisection has looked, and no row is begun. */
    static Story allWarm() {
        Story story = new Story("all warm");
        for (int file = 0; file < 4; file++) {
            story.target(BuildGrid.COMPILE, 0, 1, BuildGrid.NONE, 0, file);
        }
        story.target(BuildGrid.TEST, 0, 1, BuildGrid.NONE, 0, 4);
        for (int worker = 1; worker < 4; worker++) {
            story.add(Calls.SET_POWER, worker, 1);
        }
        story.add(Calls.BUILD, 0b1111);
        story.add(Calls.PASS, 8);
        story.add(Calls.WRITE, 5, 1);
        story.add(Calls.WRITE, 5, 2);
        story.add(Calls.WRITE, 4, badContent());
        story.add(Calls.BISECT, 4);
        story.entries = 4;
        story.changes = 3;
        story.states = new int[] {BuildGrid.DONE, BuildGrid.DONE, BuildGrid.DONE, BuildGrid.DONE, BuildGrid.NONE};
        story.looks = 2;
        story.proved = 0b1111;
        return story;
    }

    /** DONE by a hit, BAD, BLOCKED, RUN by two workers, READY again with two failures, and OPEN. */
    static Story inABuild() {
        Story story = new Story("in a build");
        story.add(Calls.WRITE, 0, badContent());
        story.target(BuildGrid.COMPILE, 0, 1, BuildGrid.NONE, 0, 1);
        story.target(BuildGrid.COMPILE, 0, 1, 0, 0, 2);
        story.target(BuildGrid.LINK, 0, 1, BuildGrid.NONE, 0, 17, 3);
        story.target(BuildGrid.TEST, 0, 1, BuildGrid.NONE, 3, 0);
        story.target(BuildGrid.LINK, 1, 1, BuildGrid.NONE, 0, 16, 19);
        story.target(BuildGrid.COMPILE, 2, 1, 65535, 0, 0, 1, 2, 3);
        story.target(BuildGrid.TEST, 1, 4, BuildGrid.NONE, 1, 20);
        story.add(Calls.BUILD, 0b1);
        story.add(Calls.PASS, 8);
        story.add(Calls.SET_POWER, 0, 0);
        story.add(Calls.SET_POWER, 1, 8);
        story.add(Calls.SET_POWER, 2, 9);
        story.add(Calls.SET_POWER, 3, 1);
        story.add(Calls.BUILD, 0b1111111);
        story.add(Calls.PASS, 1);
        story.add(Calls.WRITE, 14, 1);
        story.add(Calls.SET_POWER, 0, 1);
        story.add(Calls.SET_WAYS, 1, 1);
        story.add(Calls.PASS, 1);
        story.rowOf(0, 15, 16, 21);
        story.entries = 1;
        story.changes = 2;
        story.states = new int[] {BuildGrid.DONE, BuildGrid.BAD, BuildGrid.BLOCKED, BuildGrid.READY, BuildGrid.OPEN,
            BuildGrid.RUN, BuildGrid.OPEN};
        story.goesOn = true;
        story.proved = 0b1;
        return story;
    }

    /** A content of the file 0 with which the first TEST of inABuild is not good. */
    private static int badContent() {
        return Told.content(c -> Told.testKey(0, c) % 4 == 0);
    }

    /** 14 targets, 40 entries and 30 changes, of each of which the first ones are gone, and a row of 4. */
    static Story full() {
        Story story = new Story("all full");
        for (int t = 0; t < FULL_OF_TARGETS; t++) {
            boolean isTest = t % 4 != 3;
            int before = 16 + t - 1;
            story.target(isTest ? BuildGrid.TEST : t % 2, t % 4, isTest ? 4 : 1, t % 3 == 0 ? 65535 : BuildGrid.NONE,
                isTest ? t % 2 : 0, t % 4 == 3 && t > 4 ? before : t, t % 3);
        }
        for (int worker = 0; worker < 4; worker++) {
            story.add(Calls.SET_POWER, worker, 9 - worker);
        }
        for (int round = 1; round <= 4; round++) {
            for (int file = 0; file < 9; file++) {
                story.add(Calls.WRITE, file, 100 * round + file);
            }
            story.add(Calls.BUILD, (1 << FULL_OF_TARGETS) - 1);
            story.add(Calls.PASS, 50);
            story.add(Calls.PASS, 50);
        }
        story.add(Calls.LIE, 39, 5);
        story.add(Calls.LOSE, 0);
        story.add(Calls.BISECT, 0);
        story.rowOf(0, 15, 16, 29);
        story.entries = 40;
        story.changes = 30;
        story.proved = NOT_KNOWN;
        return story;
    }

    /** What is DONE in the full story is not worked out here: RefusalsTest asks for no proof in it. */
    static final int NOT_KNOWN = -1;

    static Story fullInABuild() {
        Story story = new Story("all full, in a build");
        Story begun = full();
        story.calls.addAll(begun.calls);
        story.shards = begun.shards;
        story.row = begun.row;
        story.entries = begun.entries;
        story.changes = begun.changes;
        story.proved = NOT_KNOWN;
        story.add(Calls.WRITE, 0, 900);
        story.add(Calls.WRITE, 1, 901);
        story.add(Calls.BUILD, (1 << FULL_OF_TARGETS) - 1);
        story.goesOn = true;
        return story;
    }
}
