/** The smallest and the largest value of each range, and what each of them does; the ones outside: RefusalsTest. */
public final class RangesTest {
    private static final int NONE = BuildGrid.NONE;
    private static final int COMPILE = BuildGrid.COMPILE, LINK = BuildGrid.LINK, TEST = BuildGrid.TEST;
    private static final int READY = BuildGrid.READY, DONE = BuildGrid.DONE, BAD = BuildGrid.BAD;
    private static final int ALL_FILES = 65535;

    private RangesTest() { }

    public static void main(String[] args) {
        promise2EveryFile();
        promise2SmallestAndLargestContent();
        promise3EverySettingAndValue();
        promise4EveryToolAndVersion();
        promise5FilesAndTargets();
        promise5ChoiceOfTargets();
        promise6KindsToolsOptions();
        promise6Shards();
        promise6Finds();
        promise6Flakiness();
        promise7FirstAndLast();
        promise8EveryWorkerAndPower();
        promise11FirstAndLastEntry();
        promise12SmallestAndLargestResult();
        promise14SmallestAndLargestRoots();
        promise15OneAndFiftyTicks();
        promise17FirstAndLastShard();
        promise23FirstAndLastThing();
        promise24And26FirstAndLastTarget();
        Expect.close("RangesTest");
    }

    // ---- files, settings, tools

    private static void promise2EveryFile() {
        BuildGrid grid = new BuildGrid();
        for (int file = 0; file < 16; file++) {
            Expect.same("2: 0 at first", grid.write(file, 100 + file), 0);
        }
        for (int t = 0; t < 4; t++) {
            Told.compile(grid, 0, t, 4 * t, 4 * t + 1, 4 * t + 2, 4 * t + 3);
            int first = 100 + 4 * t;
            Expect.same("2: each file has its own content", grid.about(t, 4),
                Expect.sum(Told.compileKey(0, t, first, first + 1, first + 2, first + 3)));
        }
        for (int file = 0; file < 16; file++) {
            Expect.same("2: the content before", grid.write(file, 0), 100 + file);
        }
    }

    private static void promise2SmallestAndLargestContent() {
        BuildGrid grid = new BuildGrid();
        Told.compile(grid, 0, 0, 15);
        Expect.same("2: 0 in a digest", grid.about(0, 4), Expect.sum(Told.compileKey(0, 0, 0)));
        Expect.same("2: 999 is written", grid.write(15, 999), 0);
        Expect.same("2: 999 in a digest", grid.about(0, 4), Expect.sum(Told.compileKey(0, 0, 999)));
        Expect.same("2: 0 is written", grid.write(15, 0), 999);
        Expect.same("2: 0 in a digest again", grid.about(0, 4), Expect.sum(Told.compileKey(0, 0, 0)));
        Expect.same("2: both were changes", grid.changes(), 2);
    }

    private static void promise3EverySettingAndValue() {
        for (int setting = 0; setting < 4; setting++) {
            BuildGrid grid = new BuildGrid();
            grid.write(1, 1);
            for (int value = 0; value < 10; value++) {
                grid.input(0, 1, setting, value);
                Expect.same("5: a choice by each value", grid.target(COMPILE, 0, 0, 1, NONE, 0), value);
            }
            for (int value = 9; value >= 0; value--) {
                Expect.same("3: the value before", grid.set(setting, value), value == 9 ? 0 : value + 1);
                for (int t = 0; t < 10; t++) {
                    Expect.same("3: setting " + setting + " is " + value + ", the choice by " + t, grid.about(t, 4),
                        Expect.sum(Told.compileKey(0, 0, t == value ? 0 : 1)));
                }
            }
        }
    }

    private static void promise4EveryToolAndVersion() {
        BuildGrid grid = new BuildGrid();
        for (int tool = 0; tool < 4; tool++) {
            Told.compile(grid, tool, 0, 0);
        }
        for (int tool = 0; tool < 4; tool++) {
            for (int version = 9; version >= 0; version--) {
                Expect.same("4: the version before", grid.setTool(tool, version), version == 9 ? 0 : version + 1);
                for (int t = 0; t < 4; t++) {
                    int due = Expect.sum(Expect.sum(COMPILE, t, t == tool ? version : 0, 0, 0, 0));
                    Expect.same("4: version " + version + " of " + tool + " in " + t, grid.about(t, 4), due);
                }
            }
        }
    }

    // ---- targets

    private static void promise5FilesAndTargets() {
        BuildGrid grid = new BuildGrid();
        grid.write(0, 7);
        grid.write(15, 8);
        Expect.same("5: the first file", grid.input(0, NONE, 0, 0), 1);
        Expect.same("5: the last file", grid.input(15, NONE, 0, 0), 2);
        grid.target(COMPILE, 0, 0, 1, NONE, 0);
        Expect.same("5: both, in order", grid.about(0, 4), Expect.sum(Told.compileKey(0, 0, 7, 8)));
        Expect.index("5: no later target", () -> grid.input(17, NONE, 0, 0));
        for (int t = 1; t < 14; t++) {
            Expect.same("5: the first target", grid.input(16, NONE, 0, 0), 1);
            Expect.same("5: the last target there is", grid.input(16 + t - 1, NONE, 0, 0), 2);
            grid.target(COMPILE, 0, 0, 1, NONE, 0);
        }
        Expect.same("5: the last one needs all", grid.needed(13), (1 << 14) - 1);
        Expect.same("5: the last of 14", grid.input(29, NONE, 0, 0), 1);
        Expect.index("5: there is no 14", () -> grid.input(30, NONE, 0, 0));
        Expect.same("5: the last of 14 as the other one", grid.input(0, 29, 3, 9), 2);
        Expect.index("5: nor as the other one", () -> grid.input(0, 30, 3, 9));
    }

    private static void promise5ChoiceOfTargets() {
        BuildGrid grid = new BuildGrid();
        Told.compile(grid, 0, 0, 0);
        Told.compile(grid, 0, 1, 0);
        grid.input(16, 17, 0, 0);
        grid.input(17, 16, 3, 9);
        grid.input(15, 16, 0, 9);
        grid.input(16, 16, 3, 0);
        grid.target(LINK, 0, 0, 1, NONE, 0);
        int first = grid.about(0, 4);
        Expect.same("5: the first, the other, the other, and one in any case", grid.about(2, 4),
            Expect.sum(Expect.sum(LINK, 0, 0, 0, 0, first, first, first, first)));
        Expect.same("22: so one is not needed", grid.needed(2), 0b101);
        grid.set(0, 9);
        grid.set(3, 9);
        int second = grid.about(1, 4);
        Expect.same("5: the other, the first, the first, and one in any case", grid.about(2, 4),
            Expect.sum(Expect.sum(LINK, 0, 0, 0, 0, second, second, 0, first)));
    }

    private static void promise6KindsToolsOptions() {
        for (int kind = COMPILE; kind <= TEST; kind++) {
            for (int tool = 0; tool < 4; tool++) {
                for (int option = 0; option < 10; option++) {
                    BuildGrid grid = new BuildGrid();
                    grid.input(0, NONE, 0, 0);
                    Expect.same("6: its number", grid.target(kind, tool, option, 1, NONE, 0), 0);
                    Expect.same("6: kind, tool and option in the key", grid.about(0, 4),
                        Expect.sum(Expect.sum(kind, tool, 0, option, 0, 0)));
                }
            }
        }
    }

    private static void promise6Shards() {
        for (int shards = 1; shards <= 4; shards++) {
            BuildGrid grid = new BuildGrid();
            Told.test(grid, shards, 0, 0);
            int digest = 7;
            for (int shard = 0; shard < shards; shard++) {
                digest = Expect.plus(digest, Told.testKey(shard, 0));
            }
            Expect.same("6: each shard is in the digest", grid.about(0, 4), digest);
            Expect.same("6: each shard is an action", grid.build(1), shards);
            int last = shards - 1;
            Expect.same("6: the last one", grid.state(0, last), READY);
            Expect.argument("6: no more", () -> grid.state(0, last + 1));
        }
    }

    /** For the first and the last file: a set of that alone, of all others, of none, of all, and no set. */
    private static void promise6Finds() {
        for (int file = 0; file < 16; file += 15) {
            int found = file;
            int other = file == 0 ? 15 : 0;
            int content = Told.content(c -> Told.compileKey(0, 0, c) % 16 == found);
            int[] sets = {1 << file, ALL_FILES, ALL_FILES ^ 1 << file, 0, 1 << other, NONE};
            boolean[] good = {true, true, false, false, false, true};
            for (int i = 0; i < sets.length; i++) {
                BuildGrid grid = new BuildGrid();
                grid.write(1, content);
                grid.write(file, 321);
                Told.finder(grid, sets[i], 1);
                int key = Told.compileKey(0, 0, content);
                int result = sets[i] == NONE ? key : Expect.plus(key, 321);
                String what = "6: finds the file " + file + " by the set " + sets[i];
                Expect.same(what + ", digest", grid.about(0, 4), Expect.sum(result));
                Expect.same(what + ", good", grid.about(0, 3), good[i] ? 1 : 0);
                Told.buildAll(grid, 1);
                Expect.same(what + ", state", grid.state(0, 0), good[i] ? DONE : BAD);
                Expect.same(what + ", entries", grid.entries(), good[i] ? 1 : 0);
                if (good[i]) {
                    Expect.same(what + ", its file", grid.entry(0, 1), sets[i] == NONE ? NONE : file);
                    Expect.same(what + ", its content", grid.entry(0, 2), sets[i] == NONE ? NONE : 321);
                }
            }
        }
    }

    /** A first attempt fails, if 3 and its result modulo 5 are less than the flakiness: all 5 against all 4. */
    private static void promise6Flakiness() {
        for (int flakiness = 0; flakiness <= 3; flakiness++) {
            for (int rest = 0; rest < 5; rest++) {
                int wanted = rest;
                BuildGrid grid = new BuildGrid();
                grid.write(0, Told.content(c -> Told.isGood(Told.testKey(0, c))
                    && (3 + Told.testKey(0, c)) % 5 == wanted));
                Told.test(grid, 1, flakiness, 0);
                grid.build(1);
                grid.pass(8);
                String what = "6: flakiness " + flakiness + " against " + rest;
                Expect.same(what, grid.count(3), rest < flakiness ? 1 : 0);
                Expect.same(what + ", state", grid.state(0, 0), rest < flakiness ? READY : DONE);
                Told.passAll(grid);
                // The next rest is 3 more, and the one behind it 1 more: two attempts in a row fail at most.
                int failures = rest >= flakiness ? 0 : (rest + 3) % 5 >= flakiness ? 1 : 2;
                Expect.same(what + ", all that fail", grid.count(3), failures);
                Expect.same(what + ", at the end", grid.state(0, 0), DONE);
                Expect.same(what + ", a flake", grid.count(4), rest < flakiness ? 1 : 0);
                Expect.same(what + ", good all the same", grid.about(0, 3), 1);
            }
        }
    }

    private static void promise7FirstAndLast() {
        BuildGrid grid = new BuildGrid();
        for (int t = 0; t < 12; t++) {
            Told.compile(grid, t % 4, 5, t);
        }
        Expect.same("7: the first target", grid.copy(0, 0), 12);
        Expect.same("7: the smallest option", grid.about(12, 4), Expect.sum(Told.compileKey(0, 0, 0)));
        Expect.same("7: what it reads", grid.needing(0), 1 | 1 << 12);
        Expect.same("7: the last target, the fourteenth comes", grid.copy(11, 9), 13);
        Expect.same("7: the largest option", grid.about(13, 4), Expect.sum(Told.compileKey(3, 9, 0)));
        Expect.same("7: what that reads", grid.needing(11), 1 << 11 | 1 << 13);
        Expect.state("7: not a fifteenth", () -> grid.copy(13, 0));
    }

    // ---- workers and the cache

    private static void promise8EveryWorkerAndPower() {
        int[] least = {8, 4, 3, 2, 2, 2, 2, 1, 1};
        int[] most = {18, 9, 6, 5, 4, 3, 3, 3, 2};
        for (int worker = 0; worker < 4; worker++) {
            for (int power = 1; power <= 9; power++) {
                BuildGrid grid = new BuildGrid();
                Told.compile(grid, 0, 0, 0);
                Told.link(grid, 1, 0, 0, 0, 0, 0);
                grid.setPower(0, 0);
                Expect.same("8: not there before", grid.setPower(worker, power), 0);
                String what = "8: worker " + worker + " with power " + power;
                checkTicks(what, grid, 0, least[power - 1]);
                Expect.same(what + " signs", grid.entry(0, 4), worker);
                checkTicks(what, grid, 1, most[power - 1]);
                Expect.same(what + " was there before", grid.setPower(worker, 0), power);
            }
        }
    }

    private static void checkTicks(String what, BuildGrid grid, int target, int ticks) {
        grid.build(1 << target);
        for (int i = 1; i < ticks; i++) {
            grid.pass(1);
            Expect.yes(what + " takes more than " + i, grid.goesOn());
        }
        grid.pass(1);
        Expect.no(what + " takes " + ticks, grid.goesOn());
        Expect.same(what + ", its way", grid.about(target, 5), ticks);
    }

    private static void promise11FirstAndLastEntry() {
        BuildGrid grid = new BuildGrid();
        for (int t = 0; t < 14; t++) {
            Told.compile(grid, 0, t % 10, t);
            grid.write(t, 1 + t);
        }
        Told.buildAll(grid, (1 << 14) - 1);
        Expect.same("11: 14 entries", grid.entries(), 14);
        for (int entry = 0; entry < 14; entry++) {
            Expect.same("11: the key of " + entry, grid.entry(entry, 0), Told.compileKey(0, entry % 10, 1 + entry));
        }
        Expect.argument("11: there is no 14", () -> grid.entry(14, 6));
        grid.lie(13, 1);
        Expect.yes("13: the last part", grid.lose(13));
        Expect.same("12: the last entry lies", grid.entry(13, 6), 0);
        Expect.same("13: the last part is gone", grid.entry(13, 5), 0);
        Expect.same("12: the one ahead of it does not", grid.entry(12, 6), 1);
        Expect.same("13: nor is its part gone", grid.entry(12, 5), 1);
    }

    private static void promise12SmallestAndLargestResult() {
        for (int lie = 0; lie <= 100002; lie += 100002) {
            BuildGrid grid = new BuildGrid();
            Told.compile(grid, 0, 0, 0);
            Told.compile(grid, 0, 1, 16);
            Told.buildAll(grid, 1);
            grid.setWays(false, false);
            grid.lie(0, lie);
            Expect.same("12: the entry has it", grid.entry(0, 3), lie);
            Told.buildAll(grid, 2);
            Expect.same("12: a hit has it", grid.result(0, 0), lie);
            Expect.same("12: what needs it has it in its key", grid.result(1, 0),
                Told.compileKey(0, 1, Expect.sum(lie)));
            Expect.same("20: it is in the proof", grid.proof(1),
                Expect.sum(grid.result(1, 0), 0, Expect.sum(lie, 0)));
        }
    }

    // ---- builds

    private static void promise14SmallestAndLargestRoots() {
        for (int told = 1; told <= 14; told++) {
            int all = (1 << told) - 1;
            for (int roots : new int[] {1, 1 << told - 1, all}) {
                BuildGrid grid = new BuildGrid();
                for (int t = 0; t < told; t++) {
                    Told.compile(grid, 0, 0, t);
                }
                Expect.argument("14: none of " + told, () -> grid.build(0));
                Expect.argument("14: one more than " + told, () -> grid.build(all + 1));
                Expect.argument("14: with one more than " + told, () -> grid.build(all + 2));
                Expect.argument("14: all below 0", () -> grid.build(-1));
                Expect.same("14: the roots " + roots, grid.build(roots), Integer.bitCount(roots));
                for (int t = 0; t < told; t++) {
                    Expect.same("14: " + t + " of the roots " + roots, grid.state(t, 0),
                        (roots & 1 << t) != 0 ? READY : NONE);
                }
            }
        }
    }

    private static void promise15OneAndFiftyTicks() {
        BuildGrid grid = new BuildGrid();
        Expect.same("15: now was 0", grid.pass(1), 1);
        Expect.same("15: the most", grid.pass(50), 51);
        Expect.argument("15: too few", () -> grid.pass(0));
        Expect.argument("15: too many", () -> grid.pass(51));
        Expect.same("15: neither passed", grid.pass(1), 52);
        for (int t = 0; t < 7; t++) {
            Told.compile(grid, t % 2, 1 + t, 0);
        }
        grid.build(0b1111111);
        grid.pass(50);
        Expect.same("15: 6 of 8 ticks each end in 50", grid.entries(), 6);
        Expect.same("15: 2 ticks of the seventh", grid.state(6, 0), BuildGrid.RUN);
        grid.pass(5);
        Expect.same("15: 7 ticks", grid.state(6, 0), BuildGrid.RUN);
        Expect.same("15: 8 ticks", grid.pass(1), 108);
        Expect.same("15: it ends", grid.state(6, 0), DONE);
    }

    /** With which all four shards can be good: with most versions one of any four results is divisible by 4. */
    private static final int VERSION = 1;

    private static int keyOfTwoFiles(int shard, int content) {
        return Expect.sum(TEST, 0, VERSION, 1, shard, content, 0);
    }

    private static void promise17FirstAndLastShard() {
        BuildGrid grid = new BuildGrid();
        int content = Told.content(c -> Told.isGood(keyOfTwoFiles(0, c)) && Told.isGood(keyOfTwoFiles(1, c))
            && Told.isGood(keyOfTwoFiles(2, c)) && Told.isGood(keyOfTwoFiles(3, c)));
        grid.write(0, content);
        grid.setTool(0, VERSION);
        Told.test(grid, 4, 0, 0, 1);
        grid.build(1);
        grid.pass(10);
        Expect.same("17: the first shard", grid.state(0, 0), DONE);
        Expect.same("18: the first shard", grid.result(0, 0), keyOfTwoFiles(0, content));
        Expect.same("17: the last shard", grid.state(0, 3), READY);
        Expect.same("18: the last shard", grid.result(0, 3), NONE);
        grid.pass(23);
        Expect.same("17: the last one is run last", grid.state(0, 3), BuildGrid.RUN);
        Expect.same("17: the third one is done", grid.state(0, 2), DONE);
        grid.pass(1);
        Expect.same("17: all are done", grid.state(0, 3), DONE);
        Expect.same("18: the key of the last shard", grid.result(0, 3), keyOfTwoFiles(3, content));
        Expect.same("19: its digest", grid.about(0, 4), Expect.sum(grid.result(0, 0), grid.result(0, 1),
            grid.result(0, 2), grid.result(0, 3)));
    }

    // ---- the graph and changes

    private static void promise23FirstAndLastThing() {
        BuildGrid grid = new BuildGrid();
        for (int t = 0; t < 14; t++) {
            Told.compile(grid, 0, 0, t == 0 ? 0 : 16 + t - 1, t == 13 ? 15 : 1);
        }
        int all = (1 << 14) - 1;
        Expect.same("23: the first file", grid.needing(0), all);
        Expect.same("23: the last file", grid.needing(15), 1 << 13);
        Expect.same("23: a file of no target", grid.needing(14), 0);
        Expect.same("23: the first target", grid.needing(16), all);
        Expect.same("23: the last target", grid.needing(29), 1 << 13);
        Expect.argument("23: below", () -> grid.needing(-1));
        Expect.index("23: above", () -> grid.needing(30));
        Expect.same("22: the first target", grid.needed(0), 1);
        Expect.same("22: the last target", grid.needed(13), all);
        Expect.index("22: above", () -> grid.needed(14));
    }

    private static void promise24And26FirstAndLastTarget() {
        BuildGrid grid = new BuildGrid();
        int broken = Told.content(c -> !Told.isGood(Told.testKey(0, c)));
        Told.test(grid, 1, 0, 0);
        for (int t = 1; t < 14; t++) {
            Told.compile(grid, 0, 0, 16 + t - 1);
        }
        Expect.same("24: the longest", grid.steps(13, 0), 13);
        Expect.same("24: the last to itself", grid.steps(13, 13), 0);
        Expect.same("24: the first to itself", grid.steps(0, 0), 0);
        Expect.same("24: back", grid.steps(0, 13), NONE);
        Expect.index("24: from one above", () -> grid.steps(14, 0));
        Expect.index("24: to one above", () -> grid.steps(0, 14));
        grid.write(0, broken);
        Expect.same("26: the first target", grid.bisect(0), 0);
        Expect.same("26: the last target", grid.bisect(13), 0);
        Expect.same("27: nothing is between", grid.looks(), 0);
        Expect.index("26: one above", () -> grid.bisect(14));
    }
}
