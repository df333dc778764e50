/** Promises 14 to 21: builds, what their actions are, and what is told of targets. */
public final class BuildTest {
    private static final int NONE = BuildGrid.NONE;
    private static final int OPEN = BuildGrid.OPEN, READY = BuildGrid.READY, RUN = BuildGrid.RUN;
    private static final int DONE = BuildGrid.DONE, BAD = BuildGrid.BAD, BLOCKED = BuildGrid.BLOCKED;

    private BuildTest() { }

    public static void main(String[] args) {
        promise14Roots();
        promise14NeededActions();
        promise14OthersAreNothing();
        promise14BlockedAtTheBeginning();
        promise15Ticks();
        promise15OpenUntilAllEnded();
        promise15BreaksOut();
        promise15ChangedInput();
        promise15ChangedFileFound();
        promise15InVainMayBeAHit();
        promise15OpenReadsTheFilesOfThen();
        promise15InputsKeepTheirResults();
        promise15Flake();
        promise15FailedIsNotLookedFor();
        promise15NotGood();
        promise15FailuresStartAgain();
        promise15LostAttemptKeepsFailures();
        promise15AttemptsAreCountedOn();
        promise15Quarantine();
        promise15TwoFlakesInOneBuild();
        promise15QuarantineByDifferentShards();
        promise15QuarantineWithinABuild();
        promise16GoesOn();
        promise17State();
        promise18Result();
        promise19Wrong();
        promise19Sound();
        promise19Stale();
        promise19StaleByOneShard();
        promise19NotNeededAnyMore();
        promise19Good();
        promise19Digest();
        promise19Way();
        promise20Proof();
        promise20Refused();
        promise21Count();
        Expect.close("BuildTest");
    }

    private static int testContent(int attempt, int flakiness, boolean fails, boolean failsNext) {
        return Told.content(c -> {
            int key = Told.testKey(0, c);
            return Told.isGood(key) && Told.fails(key, attempt, flakiness) == fails
                && Told.fails(key, attempt + 1, flakiness) == failsNext;
        });
    }

    private static int badContent() {
        return Told.content(c -> !Told.isGood(Told.testKey(0, c)));
    }

    // ---- 14

    private static void promise14Roots() {
        BuildGrid grid = new BuildGrid();
        Told.compile(grid, 0, 0, 0);
        Told.compile(grid, 0, 1, 0);
        Expect.argument("14: no root", () -> grid.build(0));
        Expect.argument("14: no such root", () -> grid.build(4));
        Expect.argument("14: one there is and one there is not", () -> grid.build(5));
        Expect.argument("14: below", () -> grid.build(-1));
        Expect.argument("14: far below", () -> grid.build(Integer.MIN_VALUE));
        Expect.argument("14: far above", () -> grid.build(Integer.MAX_VALUE));
        Expect.same("14: what throws changes nothing", grid.state(0, 0), NONE);
        Expect.same("14: two roots", grid.build(3), 2);
        Expect.state("14: a build goes on", () -> grid.build(1));
        Expect.argument("14: the argument before the build", () -> grid.build(4));
        Told.passAll(grid);
        Expect.same("14: behind it", grid.build(1), 1);
    }

    private static void promise14NeededActions() {
        BuildGrid grid = new BuildGrid();
        Told.test(grid, 4, 0, 0);
        Told.compile(grid, 0, 0, 0);
        grid.input(16, 17, 2, 3);
        grid.target(BuildGrid.LINK, 0, 0, 1, NONE, 0);
        Expect.same("14: by the setting of now", grid.build(4), 2);
        Expect.same("14: not needed", grid.state(0, 0), NONE);
        Expect.same("14: needed and ready", grid.state(1, 0), READY);
        Expect.same("14: it waits", grid.state(2, 0), OPEN);
        Told.passAll(grid);
        grid.set(2, 3);
        Expect.same("14: four shards and one", grid.build(4), 5);
        Expect.same("14: the last shard", grid.state(0, 3), READY);
        Expect.same("14: not needed now", grid.state(1, 0), NONE);
    }

    private static void promise14OthersAreNothing() {
        BuildGrid grid = new BuildGrid();
        Told.compile(grid, 0, 0, 0);
        Told.compile(grid, 0, 1, 0);
        Told.buildAll(grid, 3);
        Expect.same("14: it stays behind the end", grid.state(0, 0), DONE);
        grid.build(2);
        Expect.same("14: nothing any more", grid.state(0, 0), NONE);
        Expect.same("18: nor a result", grid.result(0, 0), NONE);
        Expect.same("19: nor sound", grid.about(0, 0), 0);
        Expect.same("14: the other one is", grid.state(1, 0), DONE);
    }

    private static void promise14BlockedAtTheBeginning() {
        BuildGrid grid = new BuildGrid();
        Told.finder(grid, 0, 0);
        Told.compile(grid, 0, 0, 16);
        Told.compile(grid, 0, 0, 17, 1);
        grid.build(4);
        grid.pass(7);
        Expect.same("15: it waits", grid.state(1, 0), OPEN);
        grid.pass(1);
        Expect.same("15: it broke out", grid.state(0, 0), BAD);
        Expect.same("15: so this is blocked", grid.state(1, 0), BLOCKED);
        Expect.same("15: and this by that, at once", grid.state(2, 0), BLOCKED);
        Expect.no("15: it has ended", grid.goesOn());
        Expect.same("15: one attempt", grid.count(0), 1);
        Expect.same("15: that did not fail", grid.count(3), 0);
        Expect.same("15: nothing is kept", grid.entries(), 0);
    }

    // ---- 15

    private static void promise15Ticks() {
        BuildGrid grid = new BuildGrid();
        Expect.argument("15: none", () -> grid.pass(0));
        Expect.argument("15: below", () -> grid.pass(-1));
        Expect.argument("15: 51", () -> grid.pass(51));
        Expect.same("15: without a build", grid.pass(50), 50);
        Told.compile(grid, 0, 0, 0);
        grid.build(1);
        Expect.same("15: in a build", grid.pass(1), 51);
        Expect.same("15: past its end", grid.pass(50), 101);
        Expect.same("15: one", grid.pass(1), 102);
    }

    private static void promise15OpenUntilAllEnded() {
        BuildGrid grid = new BuildGrid();
        Told.finder(grid, 0, 0);
        Told.compile(grid, 0, 0, 0, 1, 2, 3);
        Told.link(grid, 0, 0, 16, 17);
        grid.setPower(1, 1);
        grid.build(4);
        grid.pass(8);
        Expect.same("15: one input is bad", grid.state(0, 0), BAD);
        Expect.same("15: the other one runs", grid.state(1, 0), RUN);
        Expect.same("15: so it stays open", grid.state(2, 0), OPEN);
        grid.pass(6);
        Expect.same("15: all have ended", grid.state(2, 0), BLOCKED);
    }

    private static void promise15BreaksOut() {
        BuildGrid grid = new BuildGrid();
        int file = Told.compileKey(0, 0, 0) % 16;
        Told.finder(grid, 1 << file, 0);
        Told.finder(grid, 65535 ^ 1 << file, 0);
        grid.write(file, 5);
        Told.buildAll(grid, 3);
        Expect.same("15: in its set", grid.state(0, 0), DONE);
        Expect.same("15: not in its set", grid.state(1, 0), BAD);
        Expect.same("18: no result", grid.result(1, 0), NONE);
        Expect.same("19: its digest has the content all the same", grid.about(1, 4), grid.about(0, 4));
        Expect.same("19: good", grid.about(0, 3), 1);
        Expect.same("19: not good", grid.about(1, 3), 0);
        Expect.same("21: no attempt failed", grid.count(3), 0);
    }

    private static void promise15ChangedInput() {
        BuildGrid grid = new BuildGrid();
        Told.compile(grid, 0, 0, 0);
        grid.build(1);
        grid.pass(3);
        grid.write(0, 1);
        grid.write(1, 1);
        grid.pass(4);
        Expect.same("15: it is run to its end", grid.state(0, 0), RUN);
        grid.pass(1);
        Expect.same("15: then it is in vain", grid.state(0, 0), READY);
        Expect.same("21: in vain", grid.count(2), 1);
        Expect.same("15: nothing is kept", grid.entries(), 0);
        grid.pass(1);
        grid.write(0, 2);
        grid.write(0, 1);
        Told.passAll(grid);
        Expect.same("15: a content that came back is the same", grid.count(2), 1);
        Expect.same("15: with the content that it began with", grid.result(0, 0), Told.compileKey(0, 0, 1));
        Expect.same("21: two attempts", grid.count(0), 2);
    }

    private static void promise15ChangedFileFound() {
        BuildGrid grid = new BuildGrid();
        Told.finder(grid, 65535, 0);
        int key = Told.compileKey(0, 0, 0);
        grid.build(1);
        grid.pass(1);
        grid.write(key % 16, 3);
        grid.write((key + 1) % 16 == 0 ? 1 : (key + 1) % 16, 4);
        grid.pass(7);
        Expect.same("15: the content found is another one", grid.count(2), 1);
        Told.passAll(grid);
        Expect.same("15: the next attempt has it", grid.result(0, 0), Expect.plus(key, 3));
        Expect.same("15: and was not in vain", grid.count(2), 1);
    }

    /** What is OPEN again is looked for in the cache; what is READY is not. */
    private static void promise15InVainMayBeAHit() {
        BuildGrid grid = new BuildGrid();
        Told.compile(grid, 0, 0, 0);
        Told.buildAll(grid, 1);
        grid.write(0, 1);
        grid.build(1);
        grid.write(0, 0);
        grid.pass(1);
        Expect.same("15: ready, it is not looked for again", grid.state(0, 0), RUN);
        Told.passAll(grid);
        Expect.same("15: with what is there as it begins", grid.result(0, 0), Told.compileKey(0, 0, 0));
        Expect.same("21: no hit", grid.count(1), 0);
        grid.write(0, 1);
        grid.build(1);
        grid.pass(1);
        grid.write(0, 0);
        Told.passAll(grid);
        Expect.same("15: in vain", grid.count(2), 1);
        Expect.same("15: then a hit", grid.count(1), 1);
        Expect.same("15: that is done", grid.state(0, 0), DONE);
        BuildGrid copied = new BuildGrid();
        Told.compile(copied, 0, 0, 0);
        copied.copy(0, 0);
        Told.buildAll(copied, 1);
        copied.write(0, 1);
        copied.build(2);
        copied.write(0, 2);
        copied.pass(1);
        copied.write(0, 0);
        Told.passAll(copied);
        Expect.same("15: a hit of another target's", copied.state(1, 0), DONE);
        Expect.same("21: behind what was in vain", copied.count(2), 1);
        Expect.same("19: ticks in vain are not learnt", copied.about(1, 5), 5);
    }

    private static void promise15OpenReadsTheFilesOfThen() {
        BuildGrid grid = new BuildGrid();
        Told.compile(grid, 0, 0, 0);
        Told.compile(grid, 0, 1, 16, 1);
        grid.build(2);
        grid.pass(4);
        grid.write(1, 5);
        Told.passAll(grid);
        Expect.same("15: it was begun behind the change", grid.result(1, 0),
            Told.compileKey(0, 1, Expect.sum(grid.result(0, 0)), 5));
        Expect.same("21: so nothing was in vain", grid.count(2), 0);
    }

    /** An input that is DONE stays as it is, though its file changes: the digest is that of this build. */
    private static void promise15InputsKeepTheirResults() {
        BuildGrid grid = new BuildGrid();
        Told.compile(grid, 0, 0, 0);
        Told.compile(grid, 0, 1, 16);
        grid.build(2);
        grid.pass(9);
        grid.write(0, 5);
        Told.passAll(grid);
        Expect.same("18: the input has its old result", grid.result(0, 0), Told.compileKey(0, 0, 0));
        Expect.same("18: and what needs it is made of that", grid.result(1, 0),
            Told.compileKey(0, 1, Expect.sum(grid.result(0, 0))));
        Expect.same("21: nothing was in vain", grid.count(2), 0);
        Expect.same("19: sound", grid.about(1, 0), 1);
        Expect.same("19: but stale", grid.about(1, 1), 1);
    }

    private static void promise15Flake() {
        BuildGrid grid = new BuildGrid();
        Told.test(grid, 1, 2, 0);
        Told.compile(grid, 0, 0, 16);
        int content = testContent(1, 2, true, false);
        grid.write(0, content);
        grid.build(2);
        grid.pass(8);
        Expect.same("15: it failed, and is ready again", grid.state(0, 0), READY);
        Expect.same("21: failed", grid.count(3), 1);
        Expect.same("15: what needs it waits", grid.state(1, 0), OPEN);
        grid.pass(6);
        Expect.same("15: done, by a warm worker", grid.state(0, 0), DONE);
        Expect.same("18: its result", grid.result(0, 0), Told.testKey(0, content));
        Expect.same("21: a flake", grid.count(4), 1);
        Expect.same("15: it is not kept", grid.entries(), 0);
        Expect.same("19: not sound", grid.about(0, 0), 0);
        Expect.same("19: but good", grid.about(0, 3), 1);
        Told.passAll(grid);
        Expect.same("15: what needs it is done", grid.state(1, 0), DONE);
        Expect.same("19: not sound by its input", grid.about(1, 0), 0);
        Expect.same("15: that is kept", grid.entries(), 1);
        Expect.same("19: no quarantine after one build", grid.about(0, 2), 0);
    }

    /** Of two targets with one key one is done, as the attempt of the other one fails: that is READY, not OPEN. */
    private static void promise15FailedIsNotLookedFor() {
        BuildGrid grid = new BuildGrid();
        Told.test(grid, 1, 1, 0);
        grid.copy(0, 1);
        int first = Told.content(c -> succeeds(Told.testKey(0, c), 1, 1));
        grid.write(0, first);
        Told.buildAll(grid, 2);
        grid.write(0, Told.content(c -> c != first && failsOnce(Told.testKey(0, c), 1, 1)
            && succeeds(Told.testKey(0, c), 2, 1)));
        grid.setPower(0, 4);
        grid.setPower(1, 4);
        grid.build(3);
        grid.pass(2);
        Expect.same("15: the second attempt at the one is good", grid.state(1, 0), DONE);
        Expect.same("15: it is kept", grid.entries(), 2);
        Expect.same("15: the first at the other one failed", grid.state(0, 0), READY);
        grid.pass(1);
        Expect.same("15: it is begun again", grid.count(0), 4);
        Expect.same("15: and no hit", grid.count(1), 0);
    }

    private static void promise15NotGood() {
        BuildGrid grid = new BuildGrid();
        Told.test(grid, 1, 0, 0);
        grid.write(0, badContent());
        grid.build(1);
        grid.pass(8);
        Expect.same("15: once", grid.state(0, 0), READY);
        grid.pass(6);
        Expect.same("15: twice", grid.state(0, 0), READY);
        grid.pass(6);
        Expect.same("15: three times", grid.state(0, 0), BAD);
        Expect.same("21: failed", grid.count(3), 3);
        Expect.same("21: no flake", grid.count(4), 0);
        Expect.no("15: it has ended", grid.goesOn());
        Expect.same("18: no result", grid.result(0, 0), NONE);
        Expect.same("19: its way is not learnt", grid.about(0, 5), 5);
    }

    /** Two attempts fail, one is in vain: three more must fail, since it is OPEN again. */
    private static void promise15FailuresStartAgain() {
        BuildGrid grid = new BuildGrid();
        Told.test(grid, 1, 0, 0);
        int bad = badContent();
        int otherBad = Told.content(c -> c > bad && !Told.isGood(Told.testKey(0, c)));
        grid.write(0, bad);
        grid.build(1);
        grid.pass(15);
        Expect.same("21: two failed", grid.count(3), 2);
        Expect.same("15: the third is run", grid.state(0, 0), RUN);
        grid.write(0, otherBad);
        grid.pass(5);
        Expect.same("15: in vain", grid.count(2), 1);
        grid.pass(12);
        Expect.same("15: two more failed", grid.state(0, 0), READY);
        grid.pass(6);
        Expect.same("15: the third is the last", grid.state(0, 0), BAD);
        Expect.same("21: five failed", grid.count(3), 5);
    }

    private static void promise15LostAttemptKeepsFailures() {
        BuildGrid grid = new BuildGrid();
        Told.test(grid, 1, 0, 0);
        grid.write(0, badContent());
        grid.build(1);
        grid.pass(15);
        grid.setPower(0, 2);
        Expect.same("15: the third is lost", grid.state(0, 0), READY);
        grid.pass(4);
        Expect.same("15: the third that fails is the last", grid.state(0, 0), BAD);
        Expect.same("21: three failed", grid.count(3), 3);
        Expect.same("21: one in vain", grid.count(2), 1);
        Expect.same("21: four begun", grid.count(0), 4);
    }

    /** The number of an attempt is among all so far, those of other builds and those in vain with them. */
    private static void promise15AttemptsAreCountedOn() {
        BuildGrid grid = new BuildGrid();
        Told.test(grid, 1, 1, 0);
        int first = testContent(1, 1, false, false);
        grid.write(0, first);
        Told.buildAll(grid, 1);
        Expect.same("15: the first attempt does not fail", grid.count(3), 0);
        int second = Told.content(c -> c != first && Told.isGood(Told.testKey(0, c))
            && Told.fails(Told.testKey(0, c), 2, 1));
        grid.write(0, second);
        Told.buildAll(grid, 1);
        Expect.same("15: the second one does", grid.count(3), 1);
        int fifth = Told.content(c -> c != first && c != second && Told.isGood(Told.testKey(0, c))
            && Told.fails(Told.testKey(0, c), 5, 1));
        grid.write(0, fifth);
        grid.build(1);
        grid.pass(1);
        grid.setPower(0, 2);
        Told.passAll(grid);
        Expect.same("15: the fourth is lost, the fifth fails", grid.count(3), 2);
        Expect.same("21: six begun", grid.count(0), 6);
    }

    private static void promise15Quarantine() {
        BuildGrid grid = new BuildGrid();
        Told.test(grid, 1, 2, 0);
        Told.copyAway(grid, 0);
        grid.write(0, testContent(1, 2, true, false));
        Told.buildAll(grid, 1);
        Expect.same("19: not in quarantine", grid.about(0, 2), 0);
        grid.write(0, testContent(3, 2, true, false));
        grid.build(1);
        grid.pass(8);
        Expect.same("19: not by a failure", grid.about(0, 2), 0);
        Told.passAll(grid);
        Expect.same("21: two flakes", grid.count(4), 2);
        Expect.same("19: in quarantine by the second flake", grid.about(0, 2), 1);
        Expect.same("19: a copy is not", grid.about(1, 2), 0);
        int bad = badContent();
        grid.write(0, bad);
        Told.buildAll(grid, 1);
        Expect.same("15: in quarantine it is done", grid.state(0, 0), DONE);
        Expect.same("15: as a flake", grid.count(4), 3);
        Expect.same("15: with the third that failed", grid.count(3), 5);
        Expect.same("18: its result", grid.result(0, 0), Told.testKey(0, bad));
        Expect.same("15: it is not kept", grid.entries(), 0);
        Expect.same("19: not sound", grid.about(0, 0), 0);
        Expect.same("19: not good", grid.about(0, 3), 0);
        Expect.same("19: not stale", grid.about(0, 1), 0);
        Expect.same("20: it has a proof", grid.proof(0), Expect.sum(Told.testKey(0, bad), 0));
        Expect.same("19: still in quarantine", grid.about(0, 2), 1);
        Expect.same("19: it took 6 ticks, and 5 would be those at first", grid.about(0, 5), 6);
    }

    private static boolean failsOnce(int key, int attempt, int flakiness) {
        return Told.isGood(key) && Told.fails(key, attempt, flakiness) && !Told.fails(key, attempt + 1, flakiness);
    }

    private static boolean succeeds(int key, int attempt, int flakiness) {
        return Told.isGood(key) && !Told.fails(key, attempt, flakiness);
    }

    private static void promise15TwoFlakesInOneBuild() {
        BuildGrid grid = new BuildGrid();
        Told.test(grid, 2, 2, 0);
        grid.write(0, Told.content(c -> failsOnce(Told.testKey(0, c), 1, 2) && failsOnce(Told.testKey(1, c), 1, 2)));
        Told.buildAll(grid, 1);
        Expect.same("21: two flakes", grid.count(4), 2);
        Expect.same("19: one build makes no quarantine", grid.about(0, 2), 0);
    }

    private static void promise15QuarantineByDifferentShards() {
        BuildGrid grid = new BuildGrid();
        Told.test(grid, 2, 1, 0);
        grid.write(0, Told.content(c -> failsOnce(Told.testKey(0, c), 1, 1) && succeeds(Told.testKey(1, c), 1, 1)));
        Told.buildAll(grid, 1);
        Expect.same("21: one flake", grid.count(4), 1);
        grid.write(0, Told.content(c -> succeeds(Told.testKey(0, c), 3, 1) && failsOnce(Told.testKey(1, c), 2, 1)));
        Told.buildAll(grid, 1);
        Expect.same("21: another flake", grid.count(4), 2);
        Expect.same("19: not always the same one", grid.about(0, 2), 1);
    }

    /** The second flaky build makes the quarantine; in it the other shard's third failure is a flake at once. */
    private static void promise15QuarantineWithinABuild() {
        BuildGrid grid = new BuildGrid();
        Told.test(grid, 2, 2, 0);
        int first = Told.content(c -> Told.isGood(Told.testKey(0, c)) && Told.isGood(Told.testKey(1, c))
            && Told.fails(Told.testKey(0, c), 1, 2) && !Told.fails(Told.testKey(0, c), 2, 2)
            && !Told.fails(Told.testKey(1, c), 1, 2));
        grid.write(0, first);
        Told.buildAll(grid, 1);
        Expect.same("15: the shard 0 is a flake", grid.count(4), 1);
        int second = Told.content(c -> Told.isGood(Told.testKey(0, c)) && !Told.isGood(Told.testKey(1, c))
            && Told.fails(Told.testKey(0, c), 3, 2) && !Told.fails(Told.testKey(0, c), 4, 2));
        grid.write(0, second);
        Told.buildAll(grid, 1);
        Expect.same("19: in quarantine by the shard 0", grid.about(0, 2), 1);
        Expect.same("15: the shard 1 is done, not bad", grid.state(0, 1), DONE);
        Expect.same("21: three flakes", grid.count(4), 3);
    }

    // ---- 16 to 18

    private static void promise16GoesOn() {
        BuildGrid grid = new BuildGrid();
        Told.compile(grid, 0, 0, 0);
        Told.compile(grid, 0, 0, 16);
        grid.build(2);
        Expect.yes("16: from the beginning on", grid.goesOn());
        grid.pass(13);
        Expect.yes("16: up to the last tick", grid.goesOn());
        grid.pass(1);
        Expect.no("16: not behind it", grid.goesOn());
        grid.build(2);
        Expect.no("16: not, if all are hits", grid.goesOn());
        grid.write(0, 1);
        grid.setPower(0, 0);
        grid.build(2);
        grid.pass(50);
        Expect.yes("16: as long as nobody is there", grid.goesOn());
    }

    private static void promise17State() {
        BuildGrid grid = new BuildGrid();
        Told.test(grid, 2, 0, 0);
        Expect.same("17: there was no build", grid.state(0, 0), NONE);
        Expect.index("17: target below", () -> grid.state(-1, 0));
        Expect.index("17: target above", () -> grid.state(1, 0));
        Expect.argument("17: shard below", () -> grid.state(0, -1));
        Expect.argument("17: shard above", () -> grid.state(0, 2));
        Expect.index("17: the target before the shard", () -> grid.state(1, 4));
        grid.write(0, Told.content(c -> Told.isGood(Told.testKey(0, c)) && !Told.isGood(Told.testKey(1, c))));
        grid.build(1);
        Expect.same("17: ready", grid.state(0, 0), READY);
        grid.pass(1);
        Expect.same("17: run", grid.state(0, 0), RUN);
        Told.passAll(grid);
        Expect.same("17: done", grid.state(0, 0), DONE);
        Expect.same("17: bad", grid.state(0, 1), BAD);
        Told.compile(grid, 0, 0, 0);
        Expect.same("17: a new target was not needed", grid.state(1, 0), NONE);
    }

    private static void promise18Result() {
        BuildGrid grid = new BuildGrid();
        Told.compile(grid, 3, 9, 0, 1);
        grid.write(0, 12);
        grid.write(1, 999);
        grid.setTool(3, 8);
        Expect.same("18: there was no build", grid.result(0, 0), NONE);
        Expect.index("18: target below", () -> grid.result(-1, 0));
        Expect.index("18: target above", () -> grid.result(1, 0));
        Expect.argument("18: shard below", () -> grid.result(0, -1));
        Expect.argument("18: shard above", () -> grid.result(0, 1));
        Expect.index("18: the target before the shard", () -> grid.result(1, 1));
        grid.build(1);
        grid.pass(1);
        Expect.same("18: it is run", grid.result(0, 0), NONE);
        Told.passAll(grid);
        int due = Expect.sum(0, 3, 8, 9, 0, 12, 999);
        Expect.same("18: its key", grid.result(0, 0), due);
        grid.write(0, 13);
        Expect.same("18: it stays", grid.result(0, 0), due);
        Told.link(grid, 1, 4, 16, 2);
        Told.buildAll(grid, 2);
        Expect.same("18: with the digest of an input", grid.result(1, 0),
            Expect.sum(1, 1, 0, 4, 0, Expect.sum(grid.result(0, 0)), 0));
    }

    // ---- 19

    private static void promise19Wrong() {
        BuildGrid grid = new BuildGrid();
        Told.compile(grid, 0, 0, 0);
        Expect.index("19: target below", () -> grid.about(-1, 0));
        Expect.index("19: target above", () -> grid.about(1, 0));
        Expect.argument("19: what below", () -> grid.about(0, -1));
        Expect.argument("19: what above", () -> grid.about(0, 6));
        Expect.index("19: the target before what", () -> grid.about(1, 6));
        int[] due = {0, 0, 0, 1, Expect.sum(Told.compileKey(0, 0, 0)), NONE};
        for (int what = 0; what < due.length; what++) {
            Expect.same("19: ahead of a build, " + what, grid.about(0, what), due[what]);
        }
    }

    private static void promise19Sound() {
        BuildGrid grid = new BuildGrid();
        Told.compile(grid, 0, 0, 0);
        Told.compile(grid, 0, 1, 0);
        grid.input(16, 17, 0, 0);
        grid.target(BuildGrid.LINK, 0, 0, 1, NONE, 0);
        grid.build(4);
        grid.pass(8);
        Expect.same("19: sound alone", grid.about(0, 0), 1);
        Expect.same("19: not done", grid.about(2, 0), 0);
        Told.passAll(grid);
        Expect.same("19: sound with its inputs", grid.about(2, 0), 1);
        grid.set(0, 1);
        Expect.same("19: its input of now was not built", grid.about(2, 0), 0);
        Told.buildAll(grid, 4);
        Expect.same("19: now it is", grid.about(2, 0), 1);
    }

    private static void promise19Stale() {
        BuildGrid grid = new BuildGrid();
        Told.compile(grid, 1, 0, 0);
        Told.compile(grid, 1, 1, 16);
        Told.buildAll(grid, 2);
        Expect.same("19: fresh", grid.about(1, 1), 0);
        grid.write(0, 1);
        Expect.same("19: stale by a file", grid.about(0, 1), 1);
        Expect.same("19: stale by an input", grid.about(1, 1), 1);
        grid.write(0, 0);
        Expect.same("19: fresh again", grid.about(1, 1), 0);
        grid.setTool(1, 1);
        Expect.same("19: stale by a tool", grid.about(0, 1), 1);
        grid.build(2);
        Expect.same("19: not, if it is not done", grid.about(0, 1), 0);
    }

    /** Each of two shards finds a file of its own. */
    private static void promise19StaleByOneShard() {
        BuildGrid grid = new BuildGrid();
        grid.write(0, Told.content(c -> isFineWithAFile(0, c) && isFineWithAFile(1, c)));
        grid.input(0, NONE, 0, 0);
        grid.target(BuildGrid.TEST, 0, 1, 2, 65535, 0);
        Told.buildAll(grid, 1);
        int first = grid.entry(0, 1);
        int second = grid.entry(1, 1);
        Expect.yes("two files, and not the one that is read", first != second && first * second != 0);
        Expect.same("19: fresh", grid.about(0, 1), 0);
        grid.write(first, 1);
        Expect.same("19: stale by the first shard alone", grid.about(0, 1), 1);
        grid.write(first, 0);
        Expect.same("19: fresh again", grid.about(0, 1), 0);
        grid.write(second, 1);
        Expect.same("19: stale by the last shard alone", grid.about(0, 1), 1);
    }

    private static boolean isFineWithAFile(int shard, int content) {
        int key = Told.testKey(shard, content);
        return key % 16 != 0 && Expect.plus(key, 0) % 4 != 0;
    }

    private static void promise19NotNeededAnyMore() {
        BuildGrid grid = new BuildGrid();
        Told.compile(grid, 0, 0, 0);
        Told.compile(grid, 0, 1, 1);
        Told.buildAll(grid, 3);
        grid.write(0, 1);
        Expect.same("19: stale", grid.about(0, 1), 1);
        Expect.yes("20: it has a proof", grid.proof(0) >= 0);
        Told.buildAll(grid, 2);
        Expect.same("19: stale no more, since it is nothing", grid.about(0, 1), 0);
        Expect.same("19: nor has it a way", grid.about(0, 5), NONE);
        Expect.state("20: nor a proof", () -> grid.proof(0));
        Expect.yes("20: the other one has", grid.proof(1) >= 0);
    }

    private static void promise19Good() {
        BuildGrid grid = new BuildGrid();
        Told.test(grid, 2, 3, 0);
        Told.compile(grid, 0, 0, 16);
        Told.compile(grid, 0, 0, 17);
        grid.write(0, Told.content(c -> Told.isGood(Told.testKey(0, c)) && Told.isGood(Told.testKey(1, c))));
        Expect.same("19: good, however flaky", grid.about(0, 3), 1);
        Expect.same("19: good with its inputs", grid.about(2, 3), 1);
        grid.write(0, Told.content(c -> Told.isGood(Told.testKey(0, c)) && !Told.isGood(Told.testKey(1, c))));
        Expect.same("19: one shard is not", grid.about(0, 3), 0);
        Expect.same("19: nor is what needs it", grid.about(1, 3), 0);
        Expect.same("19: nor what needs that", grid.about(2, 3), 0);
        BuildGrid other = new BuildGrid();
        other.write(0, Told.content(c -> Told.compileKey(0, 0, c) % 4 == 0));
        Told.compile(other, 0, 0, 0);
        Expect.same("19: a COMPILE may be divisible by 4", other.about(0, 3), 1);
        Told.buildAll(other, 1);
        Expect.same("15: and is done", other.state(0, 0), DONE);
    }

    private static void promise19Digest() {
        BuildGrid grid = new BuildGrid();
        grid.write(0, 4);
        Told.test(grid, 3, 0, 0);
        Told.compile(grid, 2, 1, 16, 0, 16);
        int digest = Expect.sum(Told.testKey(0, 4), Told.testKey(1, 4), Told.testKey(2, 4));
        Expect.same("19: of three shards", grid.about(0, 4), digest);
        Expect.same("19: of inputs in order", grid.about(1, 4),
            Expect.sum(Expect.sum(0, 2, 0, 1, 0, digest, 4, digest)));
    }

    private static void promise19Way() {
        BuildGrid grid = new BuildGrid();
        Told.compile(grid, 0, 0, 0);
        Told.compile(grid, 1, 0, 16, 16);
        Told.compile(grid, 2, 0, 16, 17);
        Expect.same("19: no build", grid.about(0, 5), NONE);
        grid.build(4);
        Expect.same("19: the longest of two", grid.about(0, 5), 15);
        Told.passAll(grid);
        Expect.same("19: the last", grid.about(2, 5), 10);
        Expect.same("19: the middle", grid.about(1, 5), 20);
        Expect.same("19: the first", grid.about(0, 5), 28);
        Told.compile(grid, 3, 0, 18);
        Expect.same("19: a new one is not needed", grid.about(3, 5), NONE);
        Expect.same("19: nor in a way", grid.about(2, 5), 10);
    }

    // ---- 20 and 21

    private static void promise20Proof() {
        BuildGrid grid = new BuildGrid();
        Told.test(grid, 2, 0, 0);
        Told.compile(grid, 0, 0, 1);
        Told.link(grid, 0, 0, 17, 0, 16, 17);
        grid.write(0, Told.content(c -> Told.isGood(Told.testKey(0, c)) && Told.isGood(Told.testKey(1, c))));
        grid.setPower(0, 0);
        grid.setPower(3, 5);
        Told.buildAll(grid, 1);
        grid.setPower(3, 0);
        grid.setPower(2, 5);
        Told.buildAll(grid, 4);
        int first = Expect.sum(grid.result(0, 0), 3, grid.result(0, 1), 3);
        int second = Expect.sum(grid.result(1, 0), 2);
        Expect.same("20: of shards, the workers of hits", grid.proof(0), first);
        Expect.same("20: of one", grid.proof(1), second);
        Expect.same("20: with those of its inputs, in order", grid.proof(2),
            Expect.sum(grid.result(2, 0), 2, second, first, second));
        grid.lie(0, 8);
        Expect.same("20: it stays", grid.proof(0), first);
        grid.setWays(false, false);
        Told.buildAll(grid, 1);
        Expect.same("20: of what lies", grid.proof(0), Expect.sum(8, 3, grid.result(0, 1), 3));
    }

    private static void promise20Refused() {
        BuildGrid grid = new BuildGrid();
        Told.compile(grid, 0, 0, 0);
        Told.compile(grid, 0, 1, 0);
        grid.input(16, 17, 0, 0);
        grid.target(BuildGrid.LINK, 0, 0, 1, NONE, 0);
        Expect.index("20: target below", () -> grid.proof(-1));
        Expect.index("20: target above", () -> grid.proof(3));
        Expect.state("20: no build", () -> grid.proof(0));
        grid.build(4);
        grid.pass(8);
        Expect.same("20: in a build, of what is done", grid.proof(0), Expect.sum(grid.result(0, 0), 0));
        Expect.state("20: not done", () -> grid.proof(2));
        Expect.state("20: not needed", () -> grid.proof(1));
        Told.passAll(grid);
        Expect.same("20: done", grid.proof(2), Expect.sum(grid.result(2, 0), 0, grid.proof(0)));
        grid.set(0, 1);
        Expect.state("20: it needs another one now", () -> grid.proof(2));
        BuildGrid bad = new BuildGrid();
        Told.finder(bad, 0, 0);
        Told.buildAll(bad, 1);
        Expect.state("20: bad", () -> bad.proof(0));
    }

    private static void promise21Count() {
        BuildGrid grid = new BuildGrid();
        Told.compile(grid, 0, 0, 0);
        Expect.argument("21: below", () -> grid.count(-1));
        Expect.argument("21: above", () -> grid.count(5));
        Told.buildAll(grid, 1);
        Told.buildAll(grid, 1);
        Told.buildAll(grid, 1);
        Expect.same("21: begun", grid.count(0), 1);
        Expect.same("21: hits", grid.count(1), 2);
        Expect.same("21: in vain", grid.count(2), 0);
        Expect.same("21: failed", grid.count(3), 0);
        Expect.same("21: flakes", grid.count(4), 0);
    }
}
