import java.util.ArrayList;
import java.util.List;

/** What is empty and what is full, and what goes to make room: targets, inputs, entries, changes, workers, calls. */
public final class LimitsTest {
    private static final int NONE = BuildGrid.NONE;
    private static final int READY = BuildGrid.READY, RUN = BuildGrid.RUN, DONE = BuildGrid.DONE;
    private static final int MOST_TARGETS = 14, ALL_TARGETS = (1 << MOST_TARGETS) - 1;
    private static final int MOST_ENTRIES = 40, MOST_CHANGES = 30;

    private LimitsTest() { }

    public static void main(String[] args) {
        noTarget();
        fourteenTargets();
        fourteenByCopies();
        emptyRow();
        rowOfEachLength();
        fullRow();
        noEntry();
        entriesUpToForty();
        moreThanFortyInOneBuild();
        fourteenAtATime();
        roundAndRound();
        alikeAtTheEndMakesNoRoom();
        whatIsGoneTakesItsRoom();
        lieAndLoseBehindAWrap();
        noChange();
        changesUpToThirty();
        theThirtyFirstChange();
        manyChangesOfOneFile();
        noWorker();
        allWorkers();
        moreActionsThanWorkers();
        allCalls();
        Expect.close("LimitsTest");
    }

    // ---- targets

    private static void noTarget() {
        BuildGrid grid = new BuildGrid();
        Expect.index("22: none", () -> grid.needed(0));
        Expect.index("24: none", () -> grid.steps(0, 0));
        Expect.index("26: none", () -> grid.bisect(0));
        Expect.index("20: none", () -> grid.proof(0));
        Expect.index("19: none", () -> grid.about(0, 0));
        Expect.index("17: none", () -> grid.state(0, 0));
        Expect.index("18: none", () -> grid.result(0, 0));
        Expect.index("7: none", () -> grid.copy(0, 0));
        Expect.index("5: none", () -> grid.input(16, NONE, 0, 0));
        Expect.index("5: none as the other one", () -> grid.input(0, 16, 0, 0));
        Expect.index("23: none", () -> grid.needing(16));
        for (int file = 0; file < 16; file++) {
            Expect.same("23: no target reads a file", grid.needing(file), 0);
        }
        for (int roots : new int[] {0, 1, -1, ALL_TARGETS}) {
            Expect.argument("14: none", () -> grid.build(roots));
        }
        Expect.no("16: none", grid.goesOn());
        Expect.same("15: ticks pass all the same", grid.pass(50), 50);
    }

    private static void fourteenTargets() {
        BuildGrid grid = new BuildGrid();
        for (int t = 0; t < MOST_TARGETS; t++) {
            Expect.same("6: numbers from 0", Told.test(grid, 4, 0, t), t);
        }
        Expect.same("5: the row is told all the same", grid.input(16 + 13, NONE, 0, 0), 1);
        Expect.state("6: no fifteenth", () -> grid.target(0, 0, 0, 1, NONE, 0));
        Expect.argument("6: the argument before that", () -> grid.target(0, 0, 0, 2, NONE, 0));
        Expect.state("7: no fifteenth", () -> grid.copy(13, 0));
        Expect.index("7: the target before that", () -> grid.copy(14, 0));
        Expect.argument("7: the option before that", () -> grid.copy(13, 10));
        Expect.index("17: there is no fifteenth", () -> grid.state(14, 0));
        Expect.same("5: the row was not taken", grid.input(0, NONE, 0, 0), 2);
        Expect.argument("14: no fifteenth root", () -> grid.build(1 << 14));
        Expect.same("14: all actions of all", grid.build(ALL_TARGETS), 56);
        Expect.same("14: the last action of the last", grid.state(13, 3), READY);
    }

    private static void fourteenByCopies() {
        BuildGrid grid = new BuildGrid();
        Told.compile(grid, 0, 0, 0);
        for (int t = 1; t < MOST_TARGETS; t++) {
            Expect.same("7: numbers go on", grid.copy(t - 1, t % 10), t);
        }
        Expect.state("7: there are 14", () -> grid.copy(0, 0));
        grid.input(0, NONE, 0, 0);
        Expect.state("6: there are 14", () -> grid.target(0, 0, 0, 1, NONE, 0));
        Expect.same("23: all read it", grid.needing(0), ALL_TARGETS);
    }

    // ---- the row of inputs

    private static void emptyRow() {
        BuildGrid grid = new BuildGrid();
        Expect.state("6: empty at first", () -> grid.target(0, 0, 0, 1, NONE, 0));
        Expect.same("5: one", grid.input(0, NONE, 0, 0), 1);
        Expect.same("6: that is enough", grid.target(0, 0, 0, 1, NONE, 0), 0);
        Expect.state("6: empty then", () -> grid.target(0, 0, 0, 1, NONE, 0));
        Expect.same("7: a copy takes none", grid.copy(0, 0), 1);
        Expect.argument("5: a refused one", () -> grid.input(16, 15, 4, 0));
        Expect.index("5: another one", () -> grid.input(18, NONE, 0, 0));
        Expect.state("6: empty still", () -> grid.target(0, 0, 0, 1, NONE, 0));
        Expect.same("5: the first again", grid.input(1, NONE, 0, 0), 1);
    }

    private static void rowOfEachLength() {
        for (int length = 1; length <= 4; length++) {
            BuildGrid grid = new BuildGrid();
            int key = Expect.sum(0, 0, 0, 0, 0);
            for (int i = 0; i < length; i++) {
                grid.write(i, 50 + i);
                key = Expect.plus(key, 50 + i);
                Expect.same("5: how many", grid.input(i, NONE, 0, 0), i + 1);
            }
            grid.target(0, 0, 0, 1, NONE, 0);
            Expect.same("6: all " + length + " are in the key", grid.about(0, 4), Expect.sum(key));
            grid.build(1);
            grid.pass(5 + 2 * length);
            Expect.same("15: work for " + length + ", not less", grid.state(0, 0), RUN);
            grid.pass(1);
            Expect.same("15: work for " + length + ", not more", grid.state(0, 0), DONE);
        }
    }

    private static void fullRow() {
        BuildGrid grid = new BuildGrid();
        for (int i = 0; i < 4; i++) {
            grid.input(15 - i, i, 3, i);
        }
        Expect.state("5: a fifth", () -> grid.input(0, NONE, 0, 0));
        Expect.state("5: a fifth choice", () -> grid.input(0, 1, 0, 0));
        Expect.argument("5: the argument before that", () -> grid.input(0, NONE, 0, 1));
        Expect.index("5: the target before that", () -> grid.input(16, NONE, 0, 0));
        Expect.same("6: four", grid.target(0, 0, 0, 1, NONE, 0), 0);
        Expect.same("23: the first of the first choice", grid.needing(15), 1);
        Expect.same("23: the other ones of the others", grid.needing(1) + grid.needing(2) + grid.needing(3), 3);
        Expect.same("23: not the first ones of these", grid.needing(14) + grid.needing(13) + grid.needing(12), 0);
        Expect.same("5: empty then", grid.input(16, NONE, 0, 0), 1);
    }

    // ---- entries

    private static void noEntry() {
        BuildGrid grid = new BuildGrid();
        Told.compile(grid, 0, 0, 0);
        grid.build(1);
        Expect.same("10: none", grid.entries(), 0);
        Expect.same("21: nor a hit", grid.count(1), 0);
        Expect.argument("11: none", () -> grid.entry(0, 0));
        Expect.argument("12: none", () -> { grid.lie(0, 0); return 0; });
        Expect.argument("13: none", Expect.asInt(() -> grid.lose(0)));
        grid.pass(7);
        Expect.same("10: none until it ends", grid.entries(), 0);
        grid.pass(1);
        Expect.same("10: one", grid.entries(), 1);
    }

    /** A COMPILE of the file 0 by a strong worker: each content makes an entry in a tick. */
    private static BuildGrid oneTickGrid() {
        BuildGrid grid = new BuildGrid();
        Told.compile(grid, 0, 0, 0);
        grid.setPower(0, 9);
        return grid;
    }

    private static void makeEntry(BuildGrid grid, int content) {
        grid.write(0, content);
        grid.build(1);
        grid.pass(1);
    }

    private static void checkEntries(String what, BuildGrid grid, int firstContent, int lastContent) {
        int due = lastContent - firstContent + 1;
        Expect.same(what + ", how many", grid.entries(), due);
        for (int i = 0; i < due; i++) {
            Expect.same(what + ", entry " + i, grid.entry(i, 0), Told.compileKey(0, 0, firstContent + i));
        }
        Expect.argument(what + ", no more", () -> grid.entry(due, 0));
    }

    private static void entriesUpToForty() {
        BuildGrid grid = oneTickGrid();
        for (int content = 0; content < MOST_ENTRIES; content++) {
            makeEntry(grid, content);
            Expect.same("10: one more", grid.entries(), content + 1);
        }
        checkEntries("10: 40", grid, 0, 39);
        makeEntry(grid, 40);
        checkEntries("10: the first one of 41 goes", grid, 1, 40);
        makeEntry(grid, 41);
        checkEntries("10: then the next", grid, 2, 41);
        grid.write(0, 1);
        grid.build(1);
        Expect.same("10: what went is no hit", grid.state(0, 0), READY);
        grid.pass(1);
        checkLast("10: it comes anew, as the last", grid, 1);
        grid.write(0, 3);
        grid.build(1);
        Expect.same("10: the first one that is left is a hit", grid.state(0, 0), DONE);
    }

    private static void checkLast(String what, BuildGrid grid, int content) {
        Expect.same(what, grid.entry(MOST_ENTRIES - 1, 0), Told.compileKey(0, 0, content));
        Expect.same(what + ", still 40", grid.entries(), MOST_ENTRIES);
    }

    /** Of 56 actions of one build more than 40 come: the first ones go while it goes on. */
    private static void moreThanFortyInOneBuild() {
        BuildGrid grid = new BuildGrid();
        List<Integer> came = new ArrayList<>();
        for (int t = 0; t < MOST_TARGETS; t++) {
            grid.input(t, NONE, 0, 0);
            grid.target(BuildGrid.TEST, t % 4, t % 10, 4, NONE, 0);
            for (int shard = 0; shard < 4; shard++) {
                int key = Expect.sum(BuildGrid.TEST, t % 4, 0, t % 10, shard, 0);
                if (Told.isGood(key)) {
                    came.add(key);
                }
            }
        }
        Expect.yes("more than 40 are good", came.size() > MOST_ENTRIES);
        Expect.same("14: 56 actions", grid.build(ALL_TARGETS), 56);
        Told.passAll(grid);
        Expect.same("10: at most 40", grid.entries(), MOST_ENTRIES);
        int went = came.size() - MOST_ENTRIES;
        for (int i = 0; i < MOST_ENTRIES; i++) {
            Expect.same("10: the latest 40, entry " + i, grid.entry(i, 0), came.get(went + i));
        }
        Expect.same("18: what went has its result all the same", firstResult(grid), came.get(0));
    }

    private static int firstResult(BuildGrid grid) {
        for (int shard = 0; shard < 4; shard++) {
            if (grid.state(0, shard) == DONE) {
                return grid.result(0, shard);
            }
        }
        return NONE;
    }

    private static void fourteenAtATime() {
        BuildGrid grid = new BuildGrid();
        grid.setPower(0, 9);
        for (int t = 0; t < MOST_TARGETS; t++) {
            Told.compile(grid, 0, t % 10, t);
        }
        for (int round = 0; round < 4; round++) {
            for (int t = 0; t < MOST_TARGETS; t++) {
                grid.write(t, 20 * round + t + 1);
            }
            Told.buildAll(grid, ALL_TARGETS);
            Expect.same("10: 14 come each time", grid.entries(), Math.min(MOST_ENTRIES, 14 * (round + 1)));
        }
        for (int i = 0; i < MOST_ENTRIES; i++) {
            int came = 16 + i;
            Expect.same("10: the first 16 went", grid.entry(i, 0),
                Told.compileKey(0, came % 14 % 10, 20 * (came / 14) + came % 14 + 1));
        }
    }

    private static void roundAndRound() {
        BuildGrid grid = oneTickGrid();
        for (int content = 0; content < 125; content++) {
            makeEntry(grid, content);
        }
        checkEntries("10: three times round", grid, 85, 124);
    }

    private static void alikeAtTheEndMakesNoRoom() {
        BuildGrid grid = oneTickGrid();
        for (int content = 0; content < MOST_ENTRIES; content++) {
            makeEntry(grid, content);
        }
        int right = grid.entry(7, 3);
        grid.lie(7, 1);
        grid.write(0, 7);
        grid.build(1);
        grid.lie(7, right);
        grid.pass(1);
        checkEntries("15: what is alike does not come, and none goes", grid, 0, 39);
        grid.lie(7, 1);
        grid.build(1);
        grid.pass(1);
        Expect.same("15: another result comes", grid.entry(39, 3), right);
        Expect.same("15: and the first one goes", grid.entry(0, 0), Told.compileKey(0, 0, 1));
        Expect.same("15: so what lies moves on", grid.entry(6, 3), 1);
    }

    private static void whatIsGoneTakesItsRoom() {
        BuildGrid grid = oneTickGrid();
        for (int content = 0; content < MOST_ENTRIES; content++) {
            makeEntry(grid, content);
        }
        for (int entry = 0; entry < MOST_ENTRIES; entry++) {
            Expect.yes("13: it was there", grid.lose(entry));
        }
        Expect.same("13: all entries are left", grid.entries(), MOST_ENTRIES);
        grid.write(0, 20);
        grid.build(1);
        Expect.same("13: none is a hit", grid.state(0, 0), READY);
        grid.pass(1);
        checkLast("15: though alike, it comes", grid, 20);
        Expect.same("10: and the first one goes", grid.entry(0, 0), Told.compileKey(0, 0, 1));
        Expect.same("11: the new one has its part", grid.entry(39, 5), 1);
        Expect.same("11: the others have not", grid.entry(38, 5), 0);
        Expect.no("13: nor can it be lost again", grid.lose(38));
    }

    /** What takes the room of an entry that lied and lost its part has nothing of that. */
    private static void lieAndLoseBehindAWrap() {
        BuildGrid grid = oneTickGrid();
        for (int content = 0; content < 43; content++) {
            makeEntry(grid, content);
        }
        grid.lie(0, 11);
        grid.lose(0);
        grid.lie(37, 12);
        grid.lose(39);
        Expect.same("12: the first one", grid.entry(0, 3), 11);
        Expect.same("13: the first one", grid.entry(0, 5), 0);
        Expect.same("12: one at the end", grid.entry(37, 6), 0);
        Expect.same("13: the last one", grid.entry(39, 5), 0);
        Expect.same("13: not the second one", grid.entry(1, 5), 1);
        makeEntry(grid, 43);
        Expect.same("12: it went", grid.entry(0, 6), 1);
        Expect.same("13: with its part", grid.entry(0, 5), 1);
        Expect.same("12: that moved on", grid.entry(36, 3), 12);
        Expect.same("13: that too", grid.entry(38, 5), 0);
        Expect.same("11: the new one is right", grid.entry(39, 6), 1);
        Expect.same("11: and there", grid.entry(39, 5), 1);
        Expect.same("11: with its own result", grid.entry(39, 3), Told.compileKey(0, 0, 43));
    }

    // ---- changes

    private static void noChange() {
        BuildGrid grid = new BuildGrid();
        Told.test(grid, 1, 0, 0);
        Expect.same("25: none", grid.changes(), 0);
        grid.write(0, 0);
        Expect.argument("2: out of range", () -> grid.write(0, 1000));
        Expect.same("25: none by these", grid.changes(), 0);
        Expect.same("26: good, and no change", grid.bisect(0), NONE);
        Expect.same("27: no look", grid.looks(), 0);
    }

    private static void changesUpToThirty() {
        BuildGrid grid = new BuildGrid();
        for (int i = 1; i <= MOST_CHANGES; i++) {
            grid.write(i % 16, i);
            Expect.same("25: one more", grid.changes(), i);
            grid.write(i % 16, i);
            Expect.same("25: the same content is no change", grid.changes(), i);
        }
        grid.write(0, 500);
        Expect.same("25: not more", grid.changes(), MOST_CHANGES);
        grid.write(0, 500);
        Expect.same("25: nor less", grid.changes(), MOST_CHANGES);
    }

    private static int bad() {
        return Told.content(c -> !Told.isGood(Told.testKey(0, c)));
    }

    private static int good() {
        return Told.content(c -> c > 0 && Told.isGood(Told.testKey(0, c)));
    }

    /** The change that broke it is the first of 30; with one more change it is forgotten. */
    private static void theThirtyFirstChange() {
        BuildGrid grid = new BuildGrid();
        Told.test(grid, 1, 0, 0);
        grid.write(0, bad());
        for (int i = 1; i < MOST_CHANGES; i++) {
            grid.write(15, i);
            Expect.same("26: the first one that is kept", grid.bisect(0), 0);
        }
        Expect.same("27: 15, 7, 3, 1", grid.looks(), 4);
        grid.write(15, MOST_CHANGES - 1);
        Expect.same("26: it is kept, since nothing changed", grid.bisect(0), 0);
        grid.write(15, MOST_CHANGES);
        Expect.same("26: forgotten, so it is not good at the beginning", grid.bisect(0), NONE);
        Expect.same("27: no look", grid.looks(), 0);
        grid.write(0, good());
        grid.write(0, bad());
        Expect.same("26: nor is it with later ones", grid.bisect(0), NONE);
        for (int i = 1; i < MOST_CHANGES - 1; i++) {
            grid.write(15, 100 + i);
            Expect.same("26: as long as the good one is not the beginning", grid.bisect(0), NONE);
        }
        grid.write(15, 200);
        Expect.same("26: then it is", grid.bisect(0), 0);
        Expect.same("25: 30 all the time", grid.changes(), MOST_CHANGES);
    }

    private static void manyChangesOfOneFile() {
        BuildGrid grid = new BuildGrid();
        Told.test(grid, 1, 0, 0);
        for (int i = 0; i < 100; i++) {
            grid.write(0, i % 2 == 0 ? good() : 0);
        }
        Expect.same("25: 30 of 100", grid.changes(), MOST_CHANGES);
        Expect.same("26: good all the way", grid.bisect(0), NONE);
        grid.write(0, bad());
        Expect.same("26: the last one", grid.bisect(0), MOST_CHANGES - 1);
        Expect.same("27: 15, 22, 26, 28, 29", grid.looks(), 5);
    }

    // ---- workers

    private static void noWorker() {
        BuildGrid grid = new BuildGrid();
        Told.compile(grid, 0, 0, 0);
        Told.compile(grid, 0, 0, 16);
        grid.setWays(true, true);
        grid.setPower(0, 0);
        Expect.same("14: a build begins all the same", grid.build(2), 2);
        for (int i = 0; i < 4; i++) {
            grid.pass(50);
        }
        Expect.yes("16: it goes on", grid.goesOn());
        Expect.same("15: nothing is begun", grid.count(0), 0);
        Expect.same("17: ready", grid.state(0, 0), READY);
        Expect.same("17: open", grid.state(1, 0), BuildGrid.OPEN);
        Expect.state("14: no other build", () -> grid.build(1));
        Expect.state("3: nor a setting", () -> grid.set(0, 1));
        grid.setPower(3, 9);
        grid.pass(2);
        Expect.no("16: with one worker it ends", grid.goesOn());
        Expect.same("11: the last worker", grid.entry(0, 4), 3);
        grid.setPower(3, 0);
        grid.build(2);
        Expect.no("14: hits need no worker", grid.goesOn());
    }

    private static void allWorkers() {
        BuildGrid grid = new BuildGrid();
        for (int t = 0; t < 4; t++) {
            Told.compile(grid, 0, t, 0);
        }
        for (int worker = 0; worker < 4; worker++) {
            grid.setPower(worker, 9);
        }
        grid.build(0b1111);
        grid.pass(1);
        Expect.no("15: all end in one tick", grid.goesOn());
        Expect.same("21: four attempts", grid.count(0), 4);
        for (int worker = 0; worker < 4; worker++) {
            Expect.same("15: by rising workers", grid.entry(worker, 4), worker);
            Expect.same("15: of equals the lowest, for the lowest target", grid.entry(worker, 0),
                Told.compileKey(0, worker, 0));
        }
    }

    private static void moreActionsThanWorkers() {
        BuildGrid grid = new BuildGrid();
        int[] tools = {0, 1, 2, 3, 1, 2};
        for (int t = 0; t < 6; t++) {
            Told.compile(grid, tools[t], t, 0);
        }
        int[] powers = {1, 2, 4, 3};
        for (int worker = 0; worker < 4; worker++) {
            grid.setPower(worker, powers[worker]);
        }
        grid.build(0b111111);
        grid.pass(1);
        Expect.same("21: one for each worker", grid.count(0), 4);
        for (int t = 0; t < 6; t++) {
            Expect.same("15: the lowest four are run", grid.state(t, 0), t < 4 ? RUN : READY);
        }
        grid.pass(1);
        Expect.same("15: the strongest ends first", grid.entry(0, 4), 2);
        Expect.same("15: with the first action", grid.entry(0, 0), Told.compileKey(0, 0, 0));
        Expect.same("15: the fifth waits until the next tick", grid.state(4, 0), READY);
        grid.pass(1);
        Expect.same("15: then it is begun", grid.state(4, 0), RUN);
        Expect.same("15: the second strongest has ended, after 3 ticks", grid.entry(1, 4), 3);
        Expect.same("15: with the second action", grid.entry(1, 0), Told.compileKey(1, 1, 0));
        Told.passAll(grid);
        Expect.same("15: all were run once", grid.count(0), 6);
    }

    // ---- calls

    private static void allCalls() {
        BuildGrid grid = new BuildGrid();
        for (int call = 1; call <= Calls.MOST; call++) {
            Expect.same("15: call " + call, grid.pass(50), 50 * call);
        }
        BuildGrid written = new BuildGrid();
        for (int call = 0; call < Calls.MOST; call++) {
            Expect.same("2: call " + call, written.write(15, 999 - call), call == 0 ? 0 : 1000 - call);
        }
    }
}
