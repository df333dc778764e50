/**
 * Where two sentences of the document meet: speculation and failures, quarantine and hits, several ends in one tick,
 * settings that changed since a build, and what one build leaves to the next.
 */
public final class MeetingsTest {
    private static final int NONE = BuildGrid.NONE;
    private static final int COMPILE = BuildGrid.COMPILE, LINK = BuildGrid.LINK, TEST = BuildGrid.TEST;
    private static final int OPEN = BuildGrid.OPEN, READY = BuildGrid.READY, RUN = BuildGrid.RUN;
    private static final int DONE = BuildGrid.DONE, BAD = BuildGrid.BAD, BLOCKED = BuildGrid.BLOCKED;
    private static final int ALL_FILES = 65535;

    private MeetingsTest() { }

    public static void main(String[] args) {
        speculationIsTheSameAttempt();
        speculationThatFails();
        speculationThatIsInVain();
        speculationWithOneTickLeft();
        speculationGoesOnThoughToldNoMore();
        attemptsByTheFormula();
        attemptsInVainAreCounted();
        attemptsThatWereBadAreCounted();
        onlyTestsFail();
        failuresOfOneShardAlone();
        failuresBesideAShard();
        hitsOfEachShard();
        failureThenAnotherContent();
        flakyByItsResultNotItsKey();
        flakesInEveryShardOfOneBuild();
        flakyThenBadThenFlaky();
        quarantinedThirdTeachesTicks();
        quarantinedBreaksOut();
        quarantinedHits();
        flakesAreInputsOfEachKind();
        digestsOfShardsInABuild();
        staleAsAFlake();
        staleBySettings();
        waysBySettings();
        waysOfWhatIsNotDone();
        waysLearntWithinABuild();
        whatABuildLeavesToOthers();
        resultsOfEarlierBuilds();
        proofsOfManyBuilds();
        hitBehindAllEndsOfATick();
        hitsOfTheSameBuild();
        losesAndLiesInABuild();
        alikeButForTheContent();
        entriesOfEachWorker();
        liesOfWhatIsGone();
        lieThatIsTheKey();
        warmByEachTool();
        warmBehindIdleTicks();
        choicesAtEachPlace();
        filesFoundWithEachOption();
        Expect.close("MeetingsTest");
    }

    /** A grid whose target 0 is a TEST of one shard that reads the file 0. */
    private static BuildGrid gridOfTest(int flakiness, int content) {
        BuildGrid grid = new BuildGrid();
        Told.test(grid, 1, flakiness, 0);
        grid.write(0, content);
        return grid;
    }

    private static boolean isGood(int content) {
        return Told.isGood(Told.testKey(0, content));
    }

    private static boolean fails(int content, int attempt, int flakiness) {
        return Told.fails(Told.testKey(0, content), attempt, flakiness);
    }

    private static boolean failsOnce(int content, int attempt, int flakiness) {
        return isGood(content) && fails(content, attempt, flakiness) && !fails(content, attempt + 1, flakiness);
    }

    private static int badContent() {
        return Told.content(c -> !isGood(c));
    }

    /** The target 0 was done as a flake in two builds; its next attempt is the fifth. */
    private static BuildGrid gridInQuarantine() {
        int first = Told.content(c -> failsOnce(c, 1, 2));
        BuildGrid grid = gridOfTest(2, first);
        Told.buildAll(grid, 1);
        grid.write(0, Told.content(c -> c != first && failsOnce(c, 3, 2)));
        Told.buildAll(grid, 1);
        Expect.same("19: in quarantine", grid.about(0, 2), 1);
        Expect.same("21: by four attempts", grid.count(0), 4);
        return grid;
    }

    // ---- speculation

    /** The first attempt is fine, a second one would fail: it stays the first, though two begin it. */
    private static void speculationIsTheSameAttempt() {
        BuildGrid grid = gridOfTest(1, Told.content(c -> isGood(c) && !fails(c, 1, 1) && fails(c, 2, 1)));
        grid.setPower(1, 2);
        grid.setWays(true, true);
        grid.build(1);
        grid.pass(4);
        Expect.same("15: two begin it", grid.count(0), 2);
        Expect.same("15: it is the first attempt still", grid.state(0, 0), DONE);
        Expect.same("21: which does not fail", grid.count(3), 0);
        BuildGrid next = gridOfTest(1, Told.content(c -> failsOnce(c, 1, 1)));
        next.setPower(1, 2);
        next.setWays(true, true);
        Told.buildAll(next, 1);
        Expect.same("21: the first fails, though two began it", next.count(3), 1);
        Expect.same("17: the second does not", next.state(0, 0), DONE);
    }

    /** The worker 0 fails with it after 4 ticks; the worker 1, that would end later, is idle then, and cold. */
    private static void speculationThatFails() {
        BuildGrid grid = gridOfTest(0, badContent());
        grid.setPower(0, 0);
        grid.setPower(1, 1);
        grid.setWays(true, true);
        grid.build(1);
        grid.pass(1);
        grid.setPower(0, 2);
        grid.pass(4);
        Expect.same("15: failed at home", grid.state(0, 0), READY);
        Expect.same("21: once", grid.count(3), 1);
        Expect.same("21: two began it", grid.count(0), 2);
        grid.pass(2);
        Expect.same("15: warm at home, failed again", grid.count(3), 2);
        Expect.same("21: one began it, the worker 1 does not speculate", grid.count(0), 3);
        grid.pass(1);
        grid.setPower(0, 0);
        Expect.same("15: nobody else is at it", grid.state(0, 0), READY);
        grid.pass(7);
        Expect.same("15: the worker 1 is cold", grid.state(0, 0), RUN);
        grid.pass(1);
        Expect.same("15: the third failure", grid.state(0, 0), BAD);
        Expect.same("21: three", grid.count(3), 3);
        Expect.same("21: one was lost", grid.count(2), 1);
    }

    /** The worker 1 ends it in vain; the worker 0, that began with the content of now, is idle, and cold. */
    private static void speculationThatIsInVain() {
        BuildGrid grid = new BuildGrid();
        Told.compile(grid, 0, 0, 0);
        Told.compile(grid, 0, 1, 0);
        Told.buildAll(grid, 2);
        grid.setPower(1, 2);
        grid.build(1);
        grid.pass(1);
        grid.write(0, 1);
        grid.setWays(true, true);
        grid.pass(1);
        Expect.same("15: the warm worker 0 begins as well", grid.count(0), 3);
        grid.pass(2);
        Expect.same("15: in vain, so it is ready again", grid.state(0, 0), READY);
        Expect.same("21: one attempt in vain, though two were at it", grid.count(2), 1);
        grid.setPower(1, 0);
        grid.pass(7);
        Expect.same("15: at home it takes 8 ticks from a new beginning", grid.state(0, 0), RUN);
        grid.pass(1);
        Expect.same("15: that ends it", grid.state(0, 0), DONE);
        Expect.same("18: with the content of then", grid.result(0, 0), Told.compileKey(0, 0, 1));
    }

    private static void speculationWithOneTickLeft() {
        BuildGrid grid = new BuildGrid();
        Told.compile(grid, 0, 0, 0);
        grid.setPower(2, 9);
        grid.setWays(true, true);
        grid.build(1);
        grid.pass(1);
        Expect.same("15: done in one tick", grid.state(0, 0), DONE);
        Expect.same("15: that both began", grid.count(0), 2);
        Expect.same("11: signed by who ended it", grid.entry(0, 4), 2);
        Expect.same("19: in one tick", grid.about(0, 5), 1);
    }

    private static void speculationGoesOnThoughToldNoMore() {
        BuildGrid grid = new BuildGrid();
        Told.compile(grid, 0, 0, 0);
        grid.setPower(0, 0);
        grid.setPower(1, 1);
        grid.setWays(true, true);
        grid.build(1);
        grid.pass(1);
        grid.setPower(0, 4);
        grid.pass(1);
        grid.setWays(true, false);
        grid.pass(1);
        Expect.same("9: the worker 0 goes on with what it began", grid.state(0, 0), DONE);
        Expect.same("20: and ends it", grid.proof(0), Expect.sum(Told.compileKey(0, 0, 0), 0));
    }

    // ---- attempts and failures

    /** Forty builds for each flakiness, told beforehand by the words of the document alone. */
    private static void attemptsByTheFormula() {
        for (int flakiness = 0; flakiness <= 3; flakiness++) {
            BuildGrid grid = gridOfTest(flakiness, 0);
            int attempts = 0;
            int failed = 0;
            int flakes = 0;
            for (int content = 1; content <= 40; content++) {
                grid.write(0, content);
                grid.setPower(0, 9);
                Told.buildAll(grid, 1);
                int failures = 0;
                do {
                    attempts++;
                    failures += fails(content, attempts, flakiness) ? 1 : 0;
                } while (failures < 3 && fails(content, attempts, flakiness));
                failed += failures;
                boolean isDone = failures < 3 || grid.about(0, 2) == 1;
                flakes += isDone && failures > 0 ? 1 : 0;
                String what = "flakiness " + flakiness + ", content " + content;
                Expect.same("15: " + what, grid.state(0, 0), isDone ? DONE : BAD);
                Expect.same("19: quarantine, " + what, grid.about(0, 2), flakes > 1 ? 1 : 0);
                Expect.same("21: failed, " + what, grid.count(3), failed);
                Expect.same("21: flakes, " + what, grid.count(4), flakes);
            }
            Expect.same("21: begun, flakiness " + flakiness, grid.count(0), attempts);
            Expect.yes("some fail, some do not", failed > 0 && failed < attempts);
        }
    }

    /** The first attempt is in vain by a change; the second fails, as a first one would not. */
    private static void attemptsInVainAreCounted() {
        BuildGrid grid = gridOfTest(1, 1);
        int content = Told.content(c -> c > 1 && failsOnce(c, 2, 1) && !fails(c, 1, 1));
        grid.build(1);
        grid.pass(1);
        grid.write(0, content);
        Told.passAll(grid);
        Expect.same("21: one in vain", grid.count(2), 1);
        Expect.same("21: the second fails", grid.count(3), 1);
        Expect.same("21: the third does not", grid.count(0), 3);
        Expect.same("21: so it is a flake", grid.count(4), 1);
    }

    /** Three attempts make it bad; the next build's is the fourth, and fails as a first one would not. */
    private static void attemptsThatWereBadAreCounted() {
        BuildGrid grid = gridOfTest(1, badContent());
        Told.buildAll(grid, 1);
        Expect.same("17: bad", grid.state(0, 0), BAD);
        grid.write(0, Told.content(c -> failsOnce(c, 4, 1) && !fails(c, 1, 1)));
        Told.buildAll(grid, 1);
        Expect.same("21: the fourth fails", grid.count(3), 4);
        Expect.same("21: the fifth does not", grid.count(0), 5);
    }

    private static void onlyTestsFail() {
        for (int kind = COMPILE; kind <= LINK; kind++) {
            BuildGrid grid = new BuildGrid();
            grid.input(0, NONE, 0, 0);
            grid.target(kind, 0, 0, 1, NONE, 0);
            grid.setPower(0, 9);
            for (int content = 1; content <= 30; content++) {
                grid.write(0, content);
                Told.buildAll(grid, 1);
            }
            Expect.same("21: thirty attempts of kind " + kind, grid.count(0), 30);
            Expect.same("21: none failed", grid.count(3), 0);
            Expect.same("10: all are kept", grid.entries(), 30);
        }
    }

    private static void failuresOfOneShardAlone() {
        for (int shard = 0; shard < 4; shard++) {
            int wrong = shard;
            BuildGrid grid = new BuildGrid();
            Told.test(grid, 4, 0, 0);
            grid.setTool(0, 1);
            grid.write(0, Told.content(c -> onlyBad(wrong, c)));
            Told.buildAll(grid, 1);
            for (int s = 0; s < 4; s++) {
                Expect.same("15: shard " + s + " of which " + wrong + " is bad", grid.state(0, s),
                    s == wrong ? BAD : DONE);
            }
            Expect.same("21: three attempts failed", grid.count(3), 3);
            Expect.same("21: no flake", grid.count(4), 0);
            Expect.same("10: three are kept", grid.entries(), 3);
        }
    }

    /** The last shard fails while the one ahead of it is run anew: that is no flake by it. */
    private static void failuresBesideAShard() {
        BuildGrid grid = new BuildGrid();
        Told.test(grid, 4, 0, 0);
        grid.setTool(0, 1);
        grid.write(0, Told.content(c -> onlyBad(3, c)));
        for (int worker = 1; worker < 4; worker++) {
            grid.setPower(worker, 1);
        }
        grid.build(1);
        grid.pass(7);
        grid.setPower(2, 0);
        grid.setPower(2, 1);
        Expect.same("15: one is lost", grid.state(0, 2), READY);
        grid.pass(1);
        Expect.same("15: and begun again", grid.state(0, 2), RUN);
        Expect.same("15: as its neighbour fails", grid.state(0, 3), READY);
        Told.passAll(grid);
        Expect.same("15: it is done", grid.state(0, 2), DONE);
        Expect.same("15: the neighbour is bad", grid.state(0, 3), BAD);
        Expect.same("21: no flake", grid.count(4), 0);
        Expect.same("21: four, the lost one anew, and two of the bad one again", grid.count(0), 7);
        Expect.same("21: three failed", grid.count(3), 3);
        Expect.same("21: one was lost", grid.count(2), 1);
    }

    private static void hitsOfEachShard() {
        BuildGrid grid = new BuildGrid();
        Told.test(grid, 4, 0, 0, 1);
        grid.setTool(0, 1);
        grid.write(0, Told.content(MeetingsTest::isGoodInEachShard));
        Told.buildAll(grid, 1);
        Expect.same("10: four are kept", grid.entries(), 4);
        Expect.same("21: no hit", grid.count(1), 0);
        grid.build(1);
        Expect.same("21: four hits", grid.count(1), 4);
        grid.lose(3);
        grid.build(1);
        Expect.same("21: three more", grid.count(1), 7);
        Expect.same("17: the last shard is no hit", grid.state(0, 3), READY);
    }

    private static boolean isGoodInEachShard(int content) {
        for (int s = 0; s < 4; s++) {
            if (!Told.isGood(keyOfTwoFiles(s, content))) {
                return false;
            }
        }
        return true;
    }

    /** With the version 1 of the tool 0. */
    private static boolean onlyBad(int shard, int content) {
        for (int s = 0; s < 4; s++) {
            if (Told.isGood(Expect.sum(TEST, 0, 1, 1, s, content)) != (s != shard)) {
                return false;
            }
        }
        return true;
    }

    /** What failed with one content and is done with another one is a flake, however little flaky it is. */
    private static void failureThenAnotherContent() {
        BuildGrid grid = gridOfTest(0, 0);
        int[] bad = new int[2];
        bad[0] = badContent();
        bad[1] = Told.content(c -> c > bad[0] && !isGood(c));
        int fine = Told.content(c -> isGood(c));
        int otherFine = Told.content(c -> c > fine && isGood(c));
        for (int build = 0; build < 2; build++) {
            grid.write(0, bad[build]);
            grid.build(1);
            grid.pass(build == 0 ? 8 : 6);
            Expect.same("15: it failed", grid.state(0, 0), READY);
            grid.write(0, build == 0 ? fine : otherFine);
            Told.passAll(grid);
            Expect.same("15: it is done", grid.state(0, 0), DONE);
            Expect.same("21: as a flake", grid.count(4), build + 1);
            Expect.same("21: not in vain", grid.count(2), 0);
            Expect.same("19: in quarantine by two builds", grid.about(0, 2), build);
        }
        Expect.same("10: nothing is kept", grid.entries(), 0);
    }

    /** The content of the file found makes the difference, for what is good and for what is flaky. */
    private static void flakyByItsResultNotItsKey() {
        for (int flakiness = 1; flakiness <= 3; flakiness++) {
            for (int content = 1; content <= 30; content++) {
                int key = Told.testKey(0, content);
                if (key % 16 == 0) {
                    continue;
                }
                BuildGrid grid = new BuildGrid();
                grid.input(0, NONE, 0, 0);
                grid.target(TEST, 0, 1, 1, ALL_FILES, flakiness);
                grid.write(0, content);
                grid.write(key % 16, 900 + content);
                int result = Expect.plus(key, 900 + content);
                int failures = 0;
                while (failures < 3 && Told.fails(result, failures + 1, flakiness)) {
                    failures++;
                }
                Told.buildAll(grid, 1);
                String what = "flakiness " + flakiness + ", content " + content;
                Expect.same("15: failures by the result, " + what, grid.count(3), failures);
                Expect.same("15: " + what, grid.state(0, 0), failures < 3 ? DONE : BAD);
                Expect.same("19: good, " + what, grid.about(0, 3), Told.isGood(result) ? 1 : 0);
            }
        }
    }

    /** Of a TEST of four shards that reads the files 0 and 1, with the version 1 of its tool. */
    private static int keyOfTwoFiles(int shard, int content) {
        return Expect.sum(TEST, 0, 1, 1, shard, content, 0);
    }

    private static BuildGrid gridOfFourFlakes() {
        BuildGrid grid = new BuildGrid();
        grid.setTool(0, 1);
        Told.test(grid, 4, 3, 0, 1);
        grid.write(0, Told.content(MeetingsTest::isFlakyInEachShard));
        return grid;
    }

    /** Each fails at first, and not at both attempts behind that. */
    private static boolean isFlakyInEachShard(int content) {
        for (int s = 0; s < 4; s++) {
            int key = keyOfTwoFiles(s, content);
            boolean isFlake = Told.isGood(key) && Told.fails(key, 1, 3)
                && !(Told.fails(key, 2, 3) && Told.fails(key, 3, 3));
            if (!isFlake) {
                return false;
            }
        }
        return true;
    }

    private static void flakesInEveryShardOfOneBuild() {
        BuildGrid grid = gridOfFourFlakes();
        Told.buildAll(grid, 1);
        Expect.same("21: four flakes", grid.count(4), 4);
        Expect.same("19: of one build, so no quarantine", grid.about(0, 2), 0);
    }

    private static void flakyThenBadThenFlaky() {
        int first = Told.content(c -> failsOnce(c, 1, 2));
        BuildGrid grid = gridOfTest(2, first);
        Told.buildAll(grid, 1);
        grid.write(0, badContent());
        Told.buildAll(grid, 1);
        Expect.same("17: bad", grid.state(0, 0), BAD);
        Expect.same("19: not in quarantine by that", grid.about(0, 2), 0);
        grid.write(0, Told.content(c -> c != first && failsOnce(c, 6, 2)));
        Told.buildAll(grid, 1);
        Expect.same("21: the second flake", grid.count(4), 2);
        Expect.same("19: what was between does not matter", grid.about(0, 2), 1);
    }

    // ---- quarantine

    /** Its third attempt that fails takes one tick, those before took six. */
    private static void quarantinedThirdTeachesTicks() {
        BuildGrid grid = gridInQuarantine();
        Expect.same("19: six, warm", grid.about(0, 5), 6);
        grid.setPower(0, 4);
        grid.write(0, badContent());
        grid.build(1);
        grid.pass(3);
        Expect.same("19: what failed teaches nothing", grid.about(0, 5), 6);
        grid.pass(1);
        Expect.same("15: done as a flake", grid.state(0, 0), DONE);
        Expect.same("19: by a worker, in one tick", grid.about(0, 5), 1);
    }

    private static void quarantinedBreaksOut() {
        int outside = 5;
        BuildGrid grid = new BuildGrid();
        grid.input(0, NONE, 0, 0);
        grid.target(TEST, 0, 1, 1, ALL_FILES ^ 1 << outside, 2);
        Told.compile(grid, 0, 0, 16);
        int first = Told.content(c -> finds(c, outside) && failsOnceBehindAFile(c, 1));
        grid.write(0, first);
        Told.buildAll(grid, 1);
        grid.write(0, Told.content(c -> c != first && finds(c, outside) && failsOnceBehindAFile(c, 3)));
        Told.buildAll(grid, 1);
        Expect.same("19: in quarantine", grid.about(0, 2), 1);
        grid.write(0, Told.content(c -> Told.testKey(0, c) % 16 == outside));
        Told.buildAll(grid, 2);
        Expect.same("15: what breaks out is bad in quarantine, too", grid.state(0, 0), BAD);
        Expect.same("15: and blocks", grid.state(1, 0), BLOCKED);
        Expect.same("21: by one attempt", grid.count(0), 5);
        Expect.same("21: no attempt failed with that", grid.count(3), 2);
        Expect.same("21: nor is it a flake", grid.count(4), 2);
    }

    /** Whether it finds a file of the set that is not the one that it reads. */
    private static boolean finds(int content, int outside) {
        int file = Told.testKey(0, content) % 16;
        return file != 0 && file != outside;
    }

    private static boolean failsOnceBehindAFile(int content, int attempt) {
        int result = Expect.plus(Told.testKey(0, content), 0);
        return Told.isGood(result) && Told.fails(result, attempt, 2) && !Told.fails(result, attempt + 1, 2);
    }

    private static void quarantinedHits() {
        BuildGrid grid = gridInQuarantine();
        int fine = Told.content(c -> isGood(c) && !fails(c, 5, 2));
        grid.write(0, fine);
        Told.buildAll(grid, 1);
        Expect.same("10: what is fine is kept", grid.entries(), 1);
        Expect.same("14: and a hit", grid.build(1), 1);
        Expect.same("21: one", grid.count(1), 1);
        Expect.same("17: done", grid.state(0, 0), DONE);
        Expect.same("19: sound", grid.about(0, 0), 1);
        Expect.same("21: no flake", grid.count(4), 2);
        Expect.same("19: in quarantine all the same", grid.about(0, 2), 1);
        grid.write(0, badContent());
        Told.buildAll(grid, 1);
        Expect.same("15: so its third failure is done", grid.state(0, 0), DONE);
        Expect.same("21: as a flake", grid.count(4), 3);
    }

    private static void flakesAreInputsOfEachKind() {
        for (int kind = COMPILE; kind <= TEST; kind++) {
            int content = Told.content(c -> failsOnce(c, 1, 2));
            BuildGrid grid = gridOfTest(2, content);
            int digest = Expect.sum(Told.testKey(0, content));
            int needs = kind;
            int option = 0;
            while (Expect.sum(needs, 0, 0, option, 0, digest) % 4 == 0) {
                option++;
            }
            grid.input(16, NONE, 0, 0);
            grid.target(kind, 0, option, 1, NONE, 0);
            Told.buildAll(grid, 2);
            Expect.same("21: a flake", grid.count(4), 1);
            Expect.same("15: does not block a target of kind " + kind, grid.state(1, 0), DONE);
            Expect.same("18: that has its digest", grid.result(1, 0), Expect.sum(kind, 0, 0, option, 0, digest));
            Expect.same("19: but it is not sound", grid.about(1, 0), 0);
            Expect.same("10: though it is kept", grid.entries(), 1);
        }
    }

    /** In a build the digest of four shards, all of them flakes, is that of their results in order. */
    private static void digestsOfShardsInABuild() {
        BuildGrid grid = gridOfFourFlakes();
        Told.compile(grid, 0, 0, 16);
        Told.buildAll(grid, 2);
        int[] results = new int[4];
        for (int s = 0; s < 4; s++) {
            results[s] = grid.result(0, s);
        }
        Expect.same("18: of what needs four flakes", grid.result(1, 0),
            Expect.sum(COMPILE, 0, 1, 0, 0, Expect.sum(results)));
        Expect.same("19: as from nothing", grid.about(0, 4), Expect.sum(results));
        Expect.same("19: so it is not stale", grid.about(1, 1), 0);
    }

    // ---- what is told behind a build

    private static void staleAsAFlake() {
        BuildGrid grid = gridOfTest(2, Told.content(c -> failsOnce(c, 1, 2)));
        Told.buildAll(grid, 1);
        Expect.same("21: a flake", grid.count(4), 1);
        Expect.same("19: not stale", grid.about(0, 1), 0);
        grid.write(0, 998);
        Expect.same("19: stale, though a flake", grid.about(0, 1), 1);
    }

    /** The input of now was not needed in the build; the results by all that is now differ, or they do not. */
    private static void staleBySettings() {
        for (int option = 0; option <= 1; option++) {
            BuildGrid grid = new BuildGrid();
            Told.compile(grid, 0, 0, 0);
            grid.copy(0, option);
            grid.input(16, 17, 3, 0);
            grid.target(LINK, 0, 0, 1, NONE, 0);
            Told.buildAll(grid, 4);
            Expect.same("19: not stale", grid.about(2, 1), 0);
            grid.set(3, 1);
            Expect.same("19: by its other input, of the option " + option, grid.about(2, 1), option);
            Expect.same("19: that is not done, so it is not sound", grid.about(2, 0), 0);
            Expect.same("17: it is done itself", grid.state(2, 0), DONE);
            Expect.same("19: nothing is not stale", grid.about(1, 1), 0);
            grid.set(3, 0);
            Expect.same("19: not stale again", grid.about(2, 1), 0);
            Expect.same("19: and sound", grid.about(2, 0), 1);
        }
    }

    /** The needed targets are those of the latest build, what their inputs are is by the settings of now. */
    private static void waysBySettings() {
        BuildGrid grid = new BuildGrid();
        Told.compile(grid, 0, 0, 0);
        Told.compile(grid, 0, 1, 16);
        grid.input(16, 17, 3, 0);
        grid.target(LINK, 0, 0, 1, NONE, 0);
        Told.link(grid, 0, 1, 17);
        grid.build(0b0100);
        Expect.same("19: an input", grid.about(0, 5), 10);
        Expect.same("19: not needed", grid.about(1, 5), NONE);
        Told.passAll(grid);
        Expect.same("19: 8 and 10 ticks", grid.about(0, 5), 18);
        grid.set(3, 1);
        Expect.same("19: of what needs it now none was needed", grid.about(0, 5), 8);
        Expect.same("19: not needed in the build, though it would be now", grid.about(1, 5), NONE);
        Expect.same("19: nor is that", grid.about(3, 5), NONE);
        Expect.same("19: needed in the build", grid.about(2, 5), 10);
        grid.build(0b0100);
        Expect.same("19: now it is", grid.about(1, 5), 15);
        Expect.same("19: and what it needs", grid.about(0, 5), 23);
    }

    private static void waysOfWhatIsNotDone() {
        BuildGrid grid = new BuildGrid();
        Told.finder(grid, 0, 0);
        Told.compile(grid, 0, 0, 16);
        Told.compile(grid, 0, 1, 17);
        grid.build(4);
        Expect.same("19: of what is ready", grid.about(0, 5), 15);
        Expect.same("19: of what is open", grid.about(1, 5), 10);
        Told.passAll(grid);
        Expect.same("17: bad", grid.state(0, 0), BAD);
        Expect.same("17: blocked", grid.state(2, 0), BLOCKED);
        Expect.same("19: of what is bad", grid.about(0, 5), 15);
        Expect.same("19: of what is blocked", grid.about(1, 5), 10);
        Expect.same("19: of the last", grid.about(2, 5), 5);
    }

    /** One shard takes one tick; then the way of the other one, 1, is shorter than that of the COMPILE, 5. */
    private static void waysLearntWithinABuild() {
        BuildGrid grid = new BuildGrid();
        Told.test(grid, 2, 0, 0);
        Told.compile(grid, 1, 0, 1);
        grid.write(0, Told.content(c -> isGood(c) && Told.isGood(Told.testKey(1, c))));
        grid.setPower(0, 9);
        grid.build(3);
        grid.pass(1);
        Expect.same("15: of equal ways the lowest target", grid.state(0, 0), DONE);
        grid.pass(1);
        Expect.same("15: its way is shorter now, so the other target comes first", grid.state(1, 0), DONE);
        Expect.same("15: ahead of the other shard", grid.state(0, 1), READY);
        Expect.same("19: both took one tick", grid.about(0, 5) * 10 + grid.about(1, 5), 11);
        grid.pass(1);
        Expect.same("15: that is the last", grid.state(0, 1), DONE);
    }

    /** Attempts and ticks of a target stay, though a build between does not need it. */
    private static void whatABuildLeavesToOthers() {
        int first = Told.content(c -> isGood(c) && !fails(c, 1, 1));
        int second = Told.content(c -> c != first && failsOnce(c, 2, 1) && !fails(c, 1, 1));
        BuildGrid grid = gridOfTest(1, first);
        Told.compile(grid, 1, 0, 1);
        Told.buildAll(grid, 1);
        Told.buildAll(grid, 2);
        Expect.same("14: a hit", grid.build(1), 1);
        Expect.same("19: the ticks that it took are known still", grid.about(0, 5), 8);
        Told.buildAll(grid, 2);
        grid.write(0, second);
        Told.buildAll(grid, 1);
        Expect.same("21: the second attempt fails", grid.count(3), 1);
    }

    private static void resultsOfEarlierBuilds() {
        BuildGrid grid = new BuildGrid();
        int key = Told.compileKey(0, 0, 0);
        int outside = Told.content(c -> Told.compileKey(0, 0, c) % 16 != key % 16);
        Told.finder(grid, 1 << key % 16, 0);
        Told.compile(grid, 0, 1, 16);
        Told.compile(grid, 0, 2, 0);
        Told.buildAll(grid, 0b111);
        Expect.yes("18: all have results", grid.result(0, 0) >= 0 && grid.result(1, 0) >= 0 && grid.result(2, 0) >= 0);
        grid.write(0, outside);
        grid.build(0b010);
        Expect.same("18: none of what is ready", grid.result(0, 0), NONE);
        Expect.same("18: none of what is open", grid.result(1, 0), NONE);
        Expect.same("18: none of what is not needed", grid.result(2, 0), NONE);
        grid.pass(1);
        Expect.same("17: run", grid.state(0, 0), RUN);
        Expect.same("18: none of what is run", grid.result(0, 0), NONE);
        Told.passAll(grid);
        Expect.same("17: bad", grid.state(0, 0), BAD);
        Expect.same("18: none of what is bad", grid.result(0, 0), NONE);
        Expect.same("17: blocked", grid.state(1, 0), BLOCKED);
        Expect.same("18: none of what is blocked", grid.result(1, 0), NONE);
    }

    /** The worker of the latest build, by whom it was made or whose entry was a hit. */
    private static void proofsOfManyBuilds() {
        BuildGrid grid = new BuildGrid();
        Told.compile(grid, 0, 0, 0);
        grid.setPower(0, 0);
        for (int content = 1; content <= 24; content++) {
            int worker = content % 4;
            grid.setPower(worker, 9);
            grid.write(0, content);
            Told.buildAll(grid, 1);
            grid.setPower(worker, 0);
            Expect.same("20: build " + content, grid.proof(0), Expect.sum(Told.compileKey(0, 0, content), worker));
        }
        for (int content = 1; content <= 24; content++) {
            grid.write(0, content);
            grid.build(1);
            Expect.same("20: hit " + content, grid.proof(0), Expect.sum(Told.compileKey(0, 0, content), content % 4));
        }
    }

    // ---- the cache

    /** In one tick the worker 0 ends in vain, then the worker 1 makes what the former looks for: that is a hit. */
    private static void hitBehindAllEndsOfATick() {
        BuildGrid grid = new BuildGrid();
        Told.compile(grid, 0, 0, 0);
        grid.copy(0, 0);
        grid.build(3);
        grid.pass(1);
        grid.write(0, 1);
        grid.pass(6);
        grid.setPower(1, 9);
        grid.pass(1);
        Expect.same("21: one in vain", grid.count(2), 1);
        Expect.same("17: what the worker 1 made", grid.state(1, 0), DONE);
        Expect.same("15: it is looked for behind the ends of the tick", grid.state(0, 0), DONE);
        Expect.same("21: so it is a hit", grid.count(1), 1);
        Expect.same("20: with the worker of the entry", grid.proof(0), Expect.sum(Told.compileKey(0, 0, 1), 1));
        Expect.no("16: and all has ended", grid.goesOn());
    }

    /** The digest of the target 1 is the content of the file 0: so the target 2 has the key of the target 0. */
    private static void hitsOfTheSameBuild() {
        int second = Told.content(s -> hasSmallDigest(s));
        int first = Told.content(f -> digestOfThree(f, second) < 1000);
        BuildGrid grid = new BuildGrid();
        Told.compile(grid, 0, 0, 0);
        Told.compile(grid, 0, 1, 1, 2, 3);
        Told.compile(grid, 0, 0, 17);
        grid.write(0, digestOfThree(first, second));
        grid.write(1, first);
        grid.write(2, second);
        grid.setPower(0, 9);
        grid.setPower(1, 9);
        Expect.same("14: three are needed", grid.build(0b101), 3);
        grid.pass(1);
        Expect.same("17: one is done", grid.state(0, 0), DONE);
        Expect.same("14: one waits", grid.state(2, 0), OPEN);
        Told.passAll(grid);
        Expect.same("21: it is a hit of what was made in this build", grid.count(1), 1);
        Expect.same("21: two attempts", grid.count(0), 2);
        Expect.same("18: the same result", grid.result(2, 0), grid.result(0, 0));
    }

    private static int digestOfThree(int first, int second) {
        return Expect.sum(Told.compileKey(0, 1, first, second, 0));
    }

    /** Whether a digest can be a content, too, with that content of the second file. */
    private static boolean hasSmallDigest(int second) {
        for (int first = 0; first < 1000; first++) {
            if (digestOfThree(first, second) < 1000) {
                return true;
            }
        }
        return false;
    }

    /** What is OPEN yet sees what was lost or lied since the build began. */
    private static void losesAndLiesInABuild() {
        for (int way = 0; way < 4; way++) {
            BuildGrid grid = new BuildGrid();
            Told.compile(grid, 0, 0, 0);
            Told.compile(grid, 0, 1, 16);
            Told.buildAll(grid, 2);
            grid.lose(0);
            grid.build(2);
            grid.pass(1);
            Expect.same("17: it waits", grid.state(1, 0), OPEN);
            if (way == 1) {
                Expect.yes("13: lost in a build", grid.lose(1));
                Expect.same("11: gone", grid.entry(1, 5), 0);
            }
            if (way > 1) {
                grid.lie(1, 77);
                grid.setWays(way == 2, false);
            }
            Told.passAll(grid);
            Expect.same("17: done", grid.state(1, 0), DONE);
            boolean isHit = way == 0 || way == 3;
            Expect.same("15: a hit, unless it is lost or lies, way " + way, grid.count(1), isHit ? 1 : 0);
            Expect.same("18: what lies, if nobody looks", grid.result(1, 0) == 77 ? 1 : 0, way == 3 ? 1 : 0);
        }
    }

    /** An entry whose lie is the right result of another content is not alike: another one comes. */
    private static void alikeButForTheContent() {
        BuildGrid grid = new BuildGrid();
        Told.finder(grid, ALL_FILES, 0);
        int key = Told.compileKey(0, 0, 0);
        Expect.yes("it does not read what it finds", key % 16 != 0);
        grid.write(key % 16, 1);
        Told.buildAll(grid, 1);
        grid.lie(0, Expect.plus(key, 2));
        grid.write(key % 16, 2);
        Told.buildAll(grid, 1);
        Expect.same("18: the right result", grid.result(0, 0), Expect.plus(key, 2));
        Expect.same("15: it comes into the cache", grid.entries(), 2);
        Expect.same("11: with its own content", grid.entry(1, 2), 2);
        Expect.same("11: the one that lies keeps its own", grid.entry(0, 2), 1);
        Expect.same("21: none was a hit", grid.count(1), 0);
        grid.lie(0, Expect.plus(key, 1));
        Expect.same("11: a lie taken back is rightly signed", grid.entry(0, 6), 1);
    }

    private static void entriesOfEachWorker() {
        for (int worker = 0; worker < 4; worker++) {
            BuildGrid grid = new BuildGrid();
            Told.compile(grid, 0, 0, 0);
            grid.setPower(0, 0);
            grid.setPower(worker, 9);
            Told.buildAll(grid, 1);
            String what = "worker " + worker;
            Expect.same("11: made by the " + what, grid.entry(0, 4), worker);
            Expect.same("11: rightly signed by the " + what, grid.entry(0, 6), 1);
            int right = grid.entry(0, 3);
            grid.lie(0, (right + 1) % 100003);
            Expect.same("11: a lie of the " + what, grid.entry(0, 6), 0);
            grid.build(1);
            Expect.same("14: does not fit", grid.state(0, 0), READY);
            Told.passAll(grid);
            grid.lose(1);
            grid.build(1);
            Expect.same("14: nor does what is gone", grid.state(0, 0), READY);
            Told.passAll(grid);
            Expect.same("15: which is not alike", grid.entries(), 3);
            grid.build(1);
            Expect.same("14: the third one fits", grid.state(0, 0), DONE);
        }
    }

    private static void liesOfWhatIsGone() {
        BuildGrid grid = new BuildGrid();
        Told.compile(grid, 0, 0, 0);
        grid.setPower(0, 0);
        grid.setPower(2, 9);
        Told.buildAll(grid, 1);
        int key = Told.compileKey(0, 0, 0);
        grid.lose(0);
        int[] due = {key, NONE, NONE, key, 2, 0, 1};
        for (int what = 0; what < due.length; what++) {
            Expect.same("11: of what is gone, " + what, grid.entry(0, what), due[what]);
        }
        grid.lie(0, 5);
        Expect.same("12: it has another result", grid.entry(0, 3), 5);
        Expect.same("12: but no part", grid.entry(0, 5), 0);
        Expect.same("12: and a wrong signature", grid.entry(0, 6), 0);
        Expect.no("13: it was gone", grid.lose(0));
        grid.lie(0, key);
        grid.build(1);
        Expect.same("14: it does not fit", grid.state(0, 0), READY);
    }

    private static void lieThatIsTheKey() {
        BuildGrid grid = new BuildGrid();
        Told.finder(grid, ALL_FILES, 0);
        Told.buildAll(grid, 1);
        grid.lie(0, grid.entry(0, 0));
        Expect.same("11: the key of what finds a file is a wrong result", grid.entry(0, 6), 0);
        grid.build(1);
        Expect.same("14: it does not fit", grid.state(0, 0), READY);
    }

    // ---- workers, inputs, files

    private static void warmByEachTool() {
        for (int tool = 0; tool < 4; tool++) {
            for (int last = 0; last < 4; last++) {
                BuildGrid grid = new BuildGrid();
                Told.compile(grid, last, 0, 0);
                Told.compile(grid, tool, 1, 0);
                Told.buildAll(grid, 1);
                grid.build(2);
                grid.pass(5);
                Expect.yes("15: six ticks at least", grid.goesOn());
                grid.pass(1);
                Expect.same("15: tool " + tool + " behind " + last, grid.state(1, 0), tool == last ? DONE : RUN);
            }
        }
    }

    /** A LINK of four inputs has 18 as work. While it is idle, another worker of its power uses another tool. */
    private static void warmBehindIdleTicks() {
        for (int power = 1; power <= 9; power++) {
            BuildGrid grid = new BuildGrid();
            Told.link(grid, 0, 0, 0, 1, 2, 3);
            Told.link(grid, 1, 0, 0, 1, 2, 3);
            grid.setPower(0, 0);
            grid.setPower(3, power);
            Told.buildAll(grid, 1);
            int cold = (18 + power - 1) / power;
            Expect.same("15: cold, power " + power, grid.about(0, 5), cold);
            grid.pass(50);
            grid.setPower(2, power);
            Told.buildAll(grid, 2);
            Expect.same("11: made by the lower of equal workers", grid.entry(1, 4), 2);
            grid.setPower(2, 0);
            grid.write(3, 1);
            Told.buildAll(grid, 1);
            Expect.same("15: warm, power " + power, grid.about(0, 5), Math.max(1, cold - 2));
        }
    }

    private static void choicesAtEachPlace() {
        for (int place = 0; place < 4; place++) {
            for (int setting = 0; setting < 4; setting++) {
                BuildGrid grid = new BuildGrid();
                Told.compile(grid, 0, 0, 0);
                for (int i = 0; i < 4; i++) {
                    if (i == place) {
                        grid.input(7, 16, setting, 6);
                    } else {
                        grid.input(1, NONE, 0, 0);
                    }
                }
                int asked = grid.target(LINK, 0, 0, 1, NONE, 0);
                int copied = grid.copy(asked, 1);
                String what = "place " + place + ", setting " + setting;
                Expect.same("22: the other one, " + what, grid.needed(asked), 0b011);
                Expect.same("22: of a copy, " + what, grid.needed(copied), 0b101);
                Expect.same("23: not the first, " + what, grid.needing(7), 0);
                Expect.same("23: the other one, " + what, grid.needing(16), 0b111);
                grid.set(setting, 6);
                Expect.same("22: the first one, " + what, grid.needed(asked), 0b010);
                Expect.same("22: of a copy, " + what, grid.needed(copied), 0b100);
                Expect.same("23: the first, " + what, grid.needing(7), 0b110);
                Expect.same("23: not the other one, " + what, grid.needing(16), 0b001);
                Expect.same("23: nor its file, " + what, grid.needing(0), 0b001);
                Expect.same("24: not any more, " + what, grid.steps(asked, 0), NONE);
                grid.set(setting, 5);
                Expect.same("24: by another value, " + what, grid.steps(copied, 0), 1);
            }
        }
    }

    private static void filesFoundWithEachOption() {
        for (int option = 0; option < 10; option++) {
            for (int file = 1; file < 16; file++) {
                int found = file;
                int chosen = option;
                BuildGrid grid = new BuildGrid();
                int content = Told.content(c -> Told.compileKey(0, chosen, c) % 16 == found);
                grid.write(0, content);
                grid.write(file, 100 + option);
                grid.input(0, NONE, 0, 0);
                grid.target(COMPILE, 0, option, 1, 1 << file, 0);
                Told.buildAll(grid, 1);
                String what = "file " + file + ", option " + option;
                Expect.same("11: found, " + what, grid.entry(0, 1), file);
                Expect.same("11: its content, " + what, grid.entry(0, 2), 100 + option);
                Expect.same("18: " + what, grid.result(0, 0),
                    Expect.plus(Told.compileKey(0, option, content), 100 + option));
            }
        }
    }
}
