import java.util.function.IntPredicate;

/** The edges that the document's Terms name: sums, what is good, fits, ticks, ties, ends, and the third failure. */
public final class TermsTest {
    private static final int NONE = BuildGrid.NONE;
    private static final int COMPILE = BuildGrid.COMPILE, LINK = BuildGrid.LINK, TEST = BuildGrid.TEST;
    private static final int OPEN = BuildGrid.OPEN, READY = BuildGrid.READY, RUN = BuildGrid.RUN;
    private static final int DONE = BuildGrid.DONE, BAD = BuildGrid.BAD, BLOCKED = BuildGrid.BLOCKED;
    private static final int LARGEST = 100002, ALL_FILES = 65535;

    private TermsTest() { }

    public static void main(String[] args) {
        smallestAndLargestKey();
        keyZeroOfATest();
        resultBehindAFile();
        divisibleByFour();
        goodByItsResultNotItsKey();
        attemptsOfEachShard();
        firstOfTwoThatFit();
        hitsWhileItGoesOn();
        leastTicksWhenWarm();
        warmByWhatWentWrong();
        lostAttemptsAreNotWarm();
        endsByRisingWorkers();
        bothEndInOneTick();
        equalWaysAndPowers();
        speculationNeedsAnother();
        speculationIsLast();
        openByEachState();
        blockedByOneOfMany();
        waysOfNeededTargets();
        inVainBeforeBreakingOut();
        inVainByAFileOutsideTheSet();
        breaksOutAnew();
        lostIsReadyNotOpen();
        twoFailuresOrThree();
        quarantineByBuildsApart();
        inQuarantine();
        endsAndBeginsAgain();
        bisectByWhatIsFound();
        bisectByTheSettingsOfNow();
        Expect.close("TermsTest");
    }

    // ---- sums

    /** The tool, version, option and content of an action that reads one file, with which its key is as wanted. */
    private static int[] withKey(int kind, IntPredicate wanted) {
        for (int n = 0; n < 400; n++) {
            int start = Expect.sum(kind, n % 4, n / 4 % 10, n / 40, 0);
            for (int content = 0; content < 1000; content++) {
                if (wanted.test(Expect.plus(start, content))) {
                    return new int[] {n % 4, n / 4 % 10, n / 40, content};
                }
            }
        }
        throw new IllegalStateException("no key is as wanted");
    }

    private static BuildGrid gridWithKey(int kind, int finds, IntPredicate wanted) {
        int[] told = withKey(kind, wanted);
        BuildGrid grid = new BuildGrid();
        grid.setTool(told[0], told[1]);
        grid.write(5, told[3]);
        grid.input(5, NONE, 0, 0);
        grid.target(kind, told[0], told[2], 1, finds, 0);
        return grid;
    }

    private static void smallestAndLargestKey() {
        for (int key : new int[] {0, 1, LARGEST - 1, LARGEST}) {
            BuildGrid grid = gridWithKey(COMPILE, NONE, k -> k == key);
            Told.compile(grid, 3, 9, 16);
            Expect.same("19: good with the key " + key, grid.about(0, 3), 1);
            Expect.same("19: its digest", grid.about(0, 4), Expect.sum(key));
            Told.buildAll(grid, 1);
            Expect.same("18: its result", grid.result(0, 0), key);
            Expect.same("11: its key", grid.entry(0, 0), key);
            Expect.same("11: its result", grid.entry(0, 3), key);
            Expect.same("11: rightly signed", grid.entry(0, 6), 1);
            Expect.same("20: its proof", grid.proof(0), Expect.sum(key, 0));
            grid.build(1);
            Expect.same("14: a hit", grid.state(0, 0), DONE);
            Expect.same("18: of that result", grid.result(0, 0), key);
        }
    }

    private static void keyZeroOfATest() {
        BuildGrid grid = gridWithKey(TEST, NONE, key -> key == 0);
        Expect.same("19: 0 is divisible by 4", grid.about(0, 3), 0);
        Told.buildAll(grid, 1);
        Expect.same("17: so it is bad", grid.state(0, 0), BAD);
        Expect.same("21: after three failures", grid.count(3), 3);
        BuildGrid next = gridWithKey(TEST, NONE, key -> key == 1);
        Told.buildAll(next, 1);
        Expect.same("17: 1 is not", next.state(0, 0), DONE);
    }

    /** Contents 0 and 999 behind the smallest and the largest key, for the files that these find. */
    private static void resultBehindAFile() {
        for (int key : new int[] {0, 15, 16, LARGEST}) {
            for (int content = 0; content <= 999; content += 999) {
                BuildGrid grid = gridWithKey(COMPILE, ALL_FILES, k -> k == key);
                Expect.yes("it does not read what it finds", key % 16 != 5);
                grid.write(key % 16, content);
                Told.buildAll(grid, 1);
                Expect.same("18: the content is put to the key " + key, grid.result(0, 0), Expect.plus(key, content));
                Expect.same("11: the key is without it", grid.entry(0, 0), key);
                Expect.same("11: the file is the key modulo 16", grid.entry(0, 1), key % 16);
                Expect.same("11: its content", grid.entry(0, 2), content);
                Expect.same("19: not stale", grid.about(0, 1), 0);
                grid.write(key % 16, 1000 - content - 1);
                Expect.same("19: stale by the file found alone", grid.about(0, 1), 1);
            }
        }
    }

    // ---- good

    private static void divisibleByFour() {
        for (int kind = COMPILE; kind <= TEST; kind++) {
            for (int rest = 0; rest < 4; rest++) {
                int wanted = rest;
                boolean isGood = kind != TEST || rest != 0;
                BuildGrid grid = gridWithKey(kind, NONE, key -> key % 4 == wanted);
                String what = "kind " + kind + " with the rest " + rest;
                Expect.same("19: " + what, grid.about(0, 3), isGood ? 1 : 0);
                Told.buildAll(grid, 1);
                Expect.same("15: " + what, grid.state(0, 0), isGood ? DONE : BAD);
                Expect.same("21: " + what, grid.count(3), isGood ? 0 : 3);
            }
        }
    }

    private static void goodByItsResultNotItsKey() {
        BuildGrid grid = gridWithKey(TEST, ALL_FILES, key -> key % 4 == 0 && key % 16 != 5);
        int key = keyOf(grid);
        grid.write(key % 16, Told.content(c -> Expect.plus(key, c) % 4 != 0));
        Expect.same("19: good, though its key is divisible by 4", grid.about(0, 3), 1);
        Told.buildAll(grid, 1);
        Expect.same("15: done", grid.state(0, 0), DONE);
        BuildGrid other = gridWithKey(TEST, ALL_FILES, k -> k % 4 == 1 && k % 16 != 5);
        int otherKey = keyOf(other);
        other.write(otherKey % 16, Told.content(c -> Expect.plus(otherKey, c) % 4 == 0));
        Expect.same("19: not good, though its key is not", other.about(0, 3), 0);
        Told.buildAll(other, 1);
        Expect.same("15: bad", other.state(0, 0), BAD);
    }

    /** The key of the target 0 of gridWithKey for a TEST, from its digest with no file found changed. */
    private static int keyOf(BuildGrid grid) {
        int digest = grid.about(0, 4);
        for (int key = 0; key <= LARGEST; key++) {
            if (Expect.sum(Expect.plus(key, 0)) == digest) {
                return key;
            }
        }
        throw new IllegalStateException("no key has this digest");
    }

    /** Each shard counts its own attempts, from 1 on; a hit is none, and a copy has its own. */
    private static void attemptsOfEachShard() {
        BuildGrid grid = new BuildGrid();
        Told.test(grid, 2, 1, 0);
        int first = Told.content(c -> fineAt(0, c, 1) && fineAt(1, c, 1));
        grid.write(0, first);
        Told.buildAll(grid, 1);
        Told.buildAll(grid, 1);
        Expect.same("21: two attempts, two hits", grid.count(0) * 10 + grid.count(1), 22);
        int second = Told.content(c -> c != first && failsAt(0, c, 2) && !failsAt(0, c, 3) && fineAt(1, c, 2));
        grid.write(0, second);
        Told.buildAll(grid, 1);
        Expect.same("15: the second attempt of the one shard fails", grid.count(3), 1);
        Expect.same("15: that of the other one does not", grid.count(0), 5);
        int third = Told.content(c -> c != first && c != second && fineAt(0, c, 4) && failsAt(1, c, 3)
            && !failsAt(1, c, 4));
        grid.write(0, third);
        Told.buildAll(grid, 1);
        Expect.same("15: the fourth of the one is fine, the third of the other one fails", grid.count(3), 2);
        Expect.same("19: in quarantine by one flake each", grid.about(0, 2), 1);
        int copied = grid.copy(0, 1);
        int fourth = Told.content(c -> c != first && c != second && c != third && failsAt(0, c, 1)
            && !failsAt(0, c, 2) && fineAt(1, c, 1) && !failsAt(0, c, 5));
        grid.write(0, fourth);
        Told.buildAll(grid, 1 << copied);
        Expect.same("15: the first attempt at the copy fails", grid.count(3), 3);
        Expect.same("19: the copy is not in quarantine", grid.about(copied, 2), 0);
    }

    private static boolean failsAt(int shard, int content, int attempt) {
        int key = Told.testKey(shard, content);
        return Told.isGood(key) && Told.fails(key, attempt, 1);
    }

    private static boolean fineAt(int shard, int content, int attempt) {
        return !Told.fails(Told.testKey(shard, content), attempt, 1);
    }

    // ---- the cache

    private static void firstOfTwoThatFit() {
        BuildGrid grid = new BuildGrid();
        Told.compile(grid, 0, 0, 0);
        grid.setPower(2, 9);
        Told.buildAll(grid, 1);
        int right = grid.result(0, 0);
        grid.lie(0, 1);
        grid.setPower(2, 0);
        Told.buildAll(grid, 1);
        Expect.same("15: two entries of one key", grid.entries(), 2);
        grid.lie(0, right);
        Told.buildAll(grid, 1);
        Expect.same("20: the first one fits", grid.proof(0), Expect.sum(right, 2));
        grid.lose(0);
        Told.buildAll(grid, 1);
        Expect.same("20: its part is gone, the second one fits", grid.proof(0), Expect.sum(right, 0));
        grid.lie(1, 2);
        grid.build(1);
        Expect.same("14: that lies, none fits", grid.state(0, 0), READY);
        Told.passAll(grid);
        Expect.same("15: so a third one comes", grid.entries(), 3);
        grid.setWays(false, false);
        grid.build(1);
        Expect.same("14: the second one, if nobody looks", grid.result(0, 0), 2);
    }

    /** What is OPEN is looked for as soon as its inputs have ended: here it is a hit behind a tick. */
    private static void hitsWhileItGoesOn() {
        BuildGrid grid = new BuildGrid();
        Told.compile(grid, 0, 0, 0);
        Told.compile(grid, 0, 1, 16);
        Told.compile(grid, 0, 2, 17, 1);
        Told.buildAll(grid, 4);
        grid.lose(0);
        grid.write(1, 1);
        grid.build(4);
        Expect.same("14: its input is not done", grid.state(1, 0), OPEN);
        grid.pass(5);
        Expect.same("15: not yet", grid.state(1, 0), OPEN);
        Expect.same("21: no hit", grid.count(1), 0);
        grid.pass(1);
        Expect.same("15: a hit, as soon as it is", grid.state(1, 0), DONE);
        Expect.same("15: and what needs it is ready", grid.state(2, 0), READY);
        Expect.same("21: one hit", grid.count(1), 1);
        Expect.same("19: sound with a hit", grid.about(1, 0), 1);
    }

    // ---- workers

    /** Cold: 8, 4, 3, 2 and 1 ticks; warm: 2 less, but at least 1. */
    private static void leastTicksWhenWarm() {
        int[] powers = {1, 2, 3, 4, 8, 9};
        int[] cold = {8, 4, 3, 2, 1, 1};
        int[] warm = {6, 2, 1, 1, 1, 1};
        for (int i = 0; i < powers.length; i++) {
            BuildGrid grid = new BuildGrid();
            Told.compile(grid, 2, 0, 0);
            grid.setPower(0, powers[i]);
            String what = "15: power " + powers[i];
            Expect.same(what + ", cold", ticksToEnd(grid), cold[i]);
            Expect.same(what + ", its way", grid.about(0, 5), cold[i]);
            grid.write(0, 1);
            Expect.same(what + ", warm", ticksToEnd(grid), warm[i]);
            Expect.same(what + ", its way when warm", grid.about(0, 5), warm[i]);
        }
    }

    private static int ticksToEnd(BuildGrid grid) {
        grid.build(1);
        int ticks = 0;
        while (grid.goesOn() && ticks < 60) {
            grid.pass(1);
            ticks++;
        }
        return ticks;
    }

    /** An attempt that broke out, failed or was in vain was ended all the same. */
    private static void warmByWhatWentWrong() {
        BuildGrid grid = new BuildGrid();
        Told.finder(grid, 0, 0);
        Expect.same("15: breaks out, cold", ticksToEnd(grid), 8);
        Expect.same("15: breaks out, warm", ticksToEnd(grid), 6);
        BuildGrid failing = gridWithKey(TEST, NONE, key -> key % 4 == 0);
        Expect.same("15: fails, cold and then warm twice", ticksToEnd(failing), 20);
        BuildGrid vain = new BuildGrid();
        Told.compile(vain, 0, 0, 0);
        vain.build(1);
        vain.pass(1);
        vain.write(0, 1);
        vain.pass(12);
        Expect.yes("15: in vain, then warm, not yet", vain.goesOn());
        vain.pass(1);
        Expect.no("15: in vain, then warm", vain.goesOn());
    }

    private static void lostAttemptsAreNotWarm() {
        BuildGrid grid = new BuildGrid();
        Told.compile(grid, 0, 0, 0);
        Expect.same("15: cold", ticksToEnd(grid), 8);
        grid.write(0, 1);
        grid.build(1);
        grid.pass(1);
        grid.setPower(0, 0);
        grid.setPower(0, 1);
        grid.pass(7);
        Expect.yes("8: what it did before it vanished is forgotten", grid.goesOn());
        grid.pass(1);
        Expect.no("8: it takes 8 ticks again", grid.goesOn());
        grid.write(0, 2);
        Expect.same("15: warm again", ticksToEnd(grid), 6);
        grid.setPower(0, 1);
        grid.write(0, 3);
        Expect.same("8: the same power changes nothing", ticksToEnd(grid), 6);
    }

    /** The stronger worker 3 has the target 0, the worker 1 the target 1: both end in the second tick. */
    private static void endsByRisingWorkers() {
        BuildGrid grid = new BuildGrid();
        Told.compile(grid, 0, 0, 0);
        Told.compile(grid, 0, 1, 0);
        grid.setPower(0, 0);
        grid.setPower(3, 5);
        grid.setPower(1, 4);
        grid.build(3);
        grid.pass(2);
        Expect.no("15: both end", grid.goesOn());
        Expect.same("15: first the worker 1", grid.entry(0, 4), 1);
        Expect.same("15: with the target 1", grid.entry(0, 0), Told.compileKey(0, 1, 0));
        Expect.same("15: then the worker 3", grid.entry(1, 4), 3);
        Expect.same("15: with the target 0", grid.entry(1, 0), Told.compileKey(0, 0, 0));
    }

    /** The workers 0 and 1 have no tick left at once: the worker 0 ends it, the other one becomes idle. */
    private static void bothEndInOneTick() {
        BuildGrid grid = new BuildGrid();
        Told.compile(grid, 0, 0, 0);
        grid.setPower(0, 4);
        grid.setPower(1, 5);
        grid.setWays(true, true);
        grid.build(1);
        grid.pass(1);
        Expect.same("15: two are at it", grid.count(0), 2);
        grid.pass(1);
        Expect.no("15: it ends", grid.goesOn());
        Expect.same("15: once", grid.entries(), 1);
        Expect.same("15: by the lowest worker", grid.entry(0, 4), 0);
        Expect.same("21: nothing was in vain", grid.count(2), 0);
        grid.setPower(0, 0);
        grid.write(0, 1);
        Expect.same("15: the other one is not warm", ticksToEnd(grid), 2);
        Expect.same("15: and signs", grid.entry(1, 4), 1);
    }

    private static void equalWaysAndPowers() {
        BuildGrid grid = new BuildGrid();
        Told.test(grid, 2, 0, 0);
        Told.compile(grid, 0, 0, 0);
        grid.setPower(0, 0);
        grid.setPower(1, 2);
        grid.setPower(2, 3);
        grid.setPower(3, 3);
        grid.build(3);
        grid.pass(1);
        grid.setPower(1, 0);
        Expect.same("15: the weakest has the highest target", grid.state(1, 0), READY);
        grid.setPower(2, 0);
        Expect.same("15: the lowest of the strongest has the lowest shard", grid.state(0, 0), READY);
        Expect.same("15: the other one the other shard", grid.state(0, 1), RUN);
        grid.setPower(3, 0);
        Expect.same("15: of the lowest target", grid.state(0, 1), READY);
        Expect.same("21: all three in vain", grid.count(2), 3);
    }

    private static void speculationNeedsAnother() {
        BuildGrid grid = new BuildGrid();
        Told.compile(grid, 0, 0, 0);
        Told.compile(grid, 0, 0, 16);
        grid.setWays(true, true);
        grid.build(2);
        grid.pass(8);
        Expect.same("15: alone at home there is nobody to help", grid.count(0), 1);
        grid.setPower(2, 1);
        grid.setPower(0, 0);
        grid.pass(1);
        Expect.same("15: nobody at home", grid.count(0), 2);
        grid.setPower(0, 1);
        grid.pass(1);
        Expect.same("15: it begins as well", grid.count(0), 3);
        grid.pass(1);
        Expect.same("15: it is busy with that", grid.count(0), 3);
        grid.setPower(2, 0);
        grid.setPower(1, 9);
        grid.pass(1);
        Expect.same("15: an idle worker away does not", grid.count(0), 3);
        Told.passAll(grid);
        Expect.same("11: the worker at home ends it", grid.entry(1, 4), 0);
        Expect.same("21: none was in vain", grid.count(2), 0);
    }

    /** What is READY comes first; a worker 0 that has begun something of its own does not speculate. */
    private static void speculationIsLast() {
        BuildGrid grid = new BuildGrid();
        Told.compile(grid, 0, 0, 0, 0, 0, 0);
        Told.compile(grid, 0, 1, 0);
        grid.setPower(1, 2);
        grid.setWays(true, true);
        grid.build(3);
        grid.pass(1);
        Expect.same("15: two actions, two attempts", grid.count(0), 2);
        Expect.same("15: the worker 0 has its own", grid.state(1, 0), RUN);
        grid.setPower(1, 0);
        Expect.same("15: the other one was alone at it", grid.state(0, 0), READY);
        grid.setPower(1, 2);
        grid.pass(7);
        Expect.same("15: three attempts", grid.count(0), 3);
        Expect.same("15: the worker 0 is done", grid.state(1, 0), DONE);
        grid.pass(1);
        Expect.same("15: both end in one tick, none speculates", grid.count(0), 3);
    }

    // ---- open, blocked, ways

    private static void openByEachState() {
        BuildGrid grid = new BuildGrid();
        Told.compile(grid, 0, 0, 0);
        Told.compile(grid, 0, 1, 16);
        Told.compile(grid, 0, 2, 17);
        Told.test(grid, 2, 0, 1);
        Told.compile(grid, 0, 3, 19);
        grid.setPower(0, 0);
        grid.write(1, Told.content(c -> Told.isGood(Told.testKey(0, c)) && Told.isGood(Told.testKey(1, c))));
        grid.build(0b10100);
        Expect.same("14: open by what is ready", grid.state(1, 0), OPEN);
        Expect.same("14: open by what is open", grid.state(2, 0), OPEN);
        grid.setPower(0, 1);
        grid.pass(1);
        Expect.same("14: open by what is run", grid.state(1, 0), OPEN);
        Expect.same("17: that is run", grid.state(0, 0), RUN);
        grid.pass(7);
        Expect.same("14: not by what is done", grid.state(1, 0), READY);
        Expect.same("14: but by what is ready", grid.state(2, 0), OPEN);
        BuildGrid shards = new BuildGrid();
        shards.write(1, Told.content(c -> Told.isGood(Told.testKey(0, c)) && Told.isGood(Told.testKey(1, c))));
        Told.test(shards, 2, 0, 1);
        Told.compile(shards, 0, 3, 16);
        shards.build(2);
        shards.pass(8);
        Expect.same("14: one shard is done", shards.state(0, 0), DONE);
        Expect.same("14: open by the other one", shards.state(1, 0), OPEN);
        shards.pass(5);
        Expect.same("14: still", shards.state(1, 0), OPEN);
        shards.pass(1);
        Expect.same("14: until that is done", shards.state(1, 0), READY);
    }

    private static void blockedByOneOfMany() {
        BuildGrid grid = new BuildGrid();
        int first = Told.content(c -> !Told.isGood(Told.testKey(0, c)) && Told.isGood(Told.testKey(1, c)));
        grid.write(0, first);
        Told.test(grid, 2, 0, 0);
        Told.compile(grid, 0, 0, 1);
        Told.link(grid, 0, 0, 1, 17, 16);
        grid.input(17, 16, 0, 0);
        grid.target(LINK, 0, 0, 1, NONE, 0);
        Told.compile(grid, 0, 1, 18, 17);
        Told.buildAll(grid, 0b11111);
        Expect.same("15: one shard is bad", grid.state(0, 0), BAD);
        Expect.same("15: the other one done", grid.state(0, 1), DONE);
        Expect.same("15: blocked by one shard of one input", grid.state(2, 0), BLOCKED);
        Expect.same("15: not by what is not chosen", grid.state(3, 0), DONE);
        Expect.same("15: blocked by what is blocked", grid.state(4, 0), BLOCKED);
        Expect.same("18: no result of the blocked", grid.result(4, 0), NONE);
        Expect.state("20: no proof of the blocked", () -> grid.proof(2));
        Expect.state("20: nor of what is bad in part", () -> grid.proof(0));
        Expect.same("19: what is bad in part is not stale", grid.about(0, 1), 0);
        Expect.same("19: nor sound", grid.about(0, 0), 0);
    }

    private static void waysOfNeededTargets() {
        BuildGrid grid = new BuildGrid();
        Told.compile(grid, 0, 0, 0);
        Told.link(grid, 1, 0, 16, 0, 0, 0);
        Told.compile(grid, 2, 0, 16);
        Told.compile(grid, 3, 0, 18);
        Expect.same("19: no build, no way", grid.about(0, 5), NONE);
        Told.buildAll(grid, 0b1110);
        Expect.same("19: nothing behind it, 0", grid.about(1, 5), 18);
        Expect.same("19: the greater of two", grid.about(0, 5), 8 + 18);
        Told.buildAll(grid, 0b1000);
        Expect.same("19: a greater one that is not needed does not count", grid.about(0, 5), 8 + 8 + 8);
        Expect.same("19: nor has it a way", grid.about(1, 5), NONE);
        Told.buildAll(grid, 0b1);
        Expect.same("19: alone", grid.about(0, 5), 8);
        int copied = grid.copy(0, 1);
        grid.build(1 << copied);
        Expect.same("19: a copy took none yet, 5", grid.about(copied, 5), 5);
    }

    // ---- ends

    /** It was begun with a key that breaks out, but that has changed by then. */
    private static void inVainBeforeBreakingOut() {
        BuildGrid grid = new BuildGrid();
        int key = Told.compileKey(0, 0, 0);
        int content = Told.content(c -> Told.compileKey(0, 0, c) % 16 != key % 16);
        Told.finder(grid, ALL_FILES ^ 1 << key % 16, 0);
        grid.build(1);
        grid.pass(1);
        grid.write(0, content);
        grid.pass(7);
        Expect.same("15: in vain, not bad", grid.state(0, 0), READY);
        Expect.same("21: in vain", grid.count(2), 1);
        Told.passAll(grid);
        Expect.same("15: the new key finds another file", grid.state(0, 0), DONE);
        grid.build(1);
        grid.write(0, 0);
        Told.passAll(grid);
        Expect.same("15: a hit is not made again", grid.state(0, 0), DONE);
    }

    private static void inVainByAFileOutsideTheSet() {
        BuildGrid grid = new BuildGrid();
        int file = Told.compileKey(0, 0, 0) % 16;
        Expect.yes("it does not read what it finds", file != 0);
        Told.finder(grid, ALL_FILES ^ 1 << file, 0);
        grid.build(1);
        grid.pass(7);
        grid.write(file, 1);
        grid.pass(1);
        Expect.same("15: the content that it found is another one", grid.state(0, 0), READY);
        Expect.same("21: in vain", grid.count(2), 1);
        Told.passAll(grid);
        Expect.same("15: then it breaks out", grid.state(0, 0), BAD);
        Expect.same("21: in vain no more", grid.count(2), 1);
    }

    /** What broke out is begun again in the next build, without a failure. */
    private static void breaksOutAnew() {
        BuildGrid grid = new BuildGrid();
        Told.finder(grid, 0, 0);
        Told.buildAll(grid, 1);
        Expect.same("15: bad", grid.state(0, 0), BAD);
        Expect.same("21: by one attempt", grid.count(0), 1);
        Told.buildAll(grid, 1);
        Expect.same("15: bad again", grid.state(0, 0), BAD);
        Expect.same("21: by another one", grid.count(0), 2);
        Expect.same("21: none failed", grid.count(3), 0);
        Expect.same("21: none was in vain", grid.count(2), 0);
        Expect.same("19: it took none", grid.about(0, 5), 5);
    }

    /** With a content that is in the cache by then: what is READY again is not looked for. */
    private static void lostIsReadyNotOpen() {
        BuildGrid grid = new BuildGrid();
        Told.compile(grid, 0, 0, 0);
        Told.buildAll(grid, 1);
        grid.write(0, 1);
        grid.build(1);
        grid.pass(1);
        grid.write(0, 0);
        grid.setPower(0, 2);
        Expect.same("8: ready", grid.state(0, 0), READY);
        grid.pass(1);
        Expect.same("15: begun, not a hit", grid.state(0, 0), RUN);
        Expect.same("21: no hit", grid.count(1), 0);
        Told.passAll(grid);
        Expect.same("15: alike, so no other entry", grid.entries(), 1);
        Expect.same("18: its result", grid.result(0, 0), Told.compileKey(0, 0, 0));
    }

    /** Attempts whose rests are 2, 0 and 3 against a flakiness of 3: two fail, the third does not. */
    private static void twoFailuresOrThree() {
        BuildGrid grid = new BuildGrid();
        grid.write(0, Told.content(c -> Told.isGood(Told.testKey(0, c)) && (3 + Told.testKey(0, c)) % 5 == 2));
        Told.test(grid, 1, 3, 0);
        grid.build(1);
        grid.pass(8);
        Expect.same("15: one failed", grid.state(0, 0), READY);
        grid.pass(6);
        Expect.same("15: two failed", grid.state(0, 0), READY);
        Expect.same("21: two", grid.count(3), 2);
        grid.pass(6);
        Expect.same("15: the third did not", grid.state(0, 0), DONE);
        Expect.same("21: two still", grid.count(3), 2);
        Expect.same("21: a flake", grid.count(4), 1);
        Expect.same("10: not in the cache", grid.entries(), 0);
        int bad = Told.content(c -> !Told.isGood(Told.testKey(0, c)));
        grid.write(0, bad);
        Told.buildAll(grid, 1);
        Expect.same("15: the third one failed, too", grid.state(0, 0), BAD);
        Expect.same("21: five", grid.count(3), 5);
        Expect.same("21: no flake", grid.count(4), 1);
        Expect.same("19: no quarantine by what is bad", grid.about(0, 2), 0);
    }

    private static boolean failsOnceFrom(int content, int attempt) {
        int key = Told.testKey(0, content);
        return Told.isGood(key) && Told.fails(key, attempt, 2) && !Told.fails(key, attempt + 1, 2);
    }

    private static boolean fineFrom(int content, int attempt) {
        return !Told.fails(Told.testKey(0, content), attempt, 2);
    }

    /** Flakes in the first and the third build, none in the second: in quarantine from the third on. */
    private static BuildGrid flakyTwice() {
        BuildGrid grid = new BuildGrid();
        Told.test(grid, 1, 2, 0);
        int first = Told.content(c -> failsOnceFrom(c, 1));
        int second = Told.content(c -> c != first && fineFrom(c, 3));
        int third = Told.content(c -> c != first && c != second && failsOnceFrom(c, 4));
        grid.write(0, first);
        Told.buildAll(grid, 1);
        grid.write(0, second);
        Told.buildAll(grid, 1);
        grid.write(0, third);
        Told.buildAll(grid, 1);
        return grid;
    }

    private static void quarantineByBuildsApart() {
        BuildGrid grid = flakyTwice();
        Expect.same("21: two flakes", grid.count(4), 2);
        Expect.same("21: by five attempts", grid.count(0), 5);
        Expect.same("10: what was fine is kept", grid.entries(), 1);
        Expect.same("19: in quarantine", grid.about(0, 2), 1);
        Told.compile(grid, 0, 0, 1);
        Told.buildAll(grid, 2);
        Expect.same("19: still, though it is not needed", grid.about(0, 2), 1);
    }

    /** In quarantine one failure is one, what is fine is no flake, and what breaks out is bad. */
    private static void inQuarantine() {
        BuildGrid grid = flakyTwice();
        int fine = Told.content(c -> fineFrom(c, 6) && isNew(grid, c));
        grid.write(0, fine);
        Told.buildAll(grid, 1);
        Expect.same("15: fine is done", grid.state(0, 0), DONE);
        Expect.same("21: and no flake", grid.count(4), 2);
        Expect.same("10: and kept", grid.entries(), 2);
        Expect.same("19: and sound", grid.about(0, 0), 1);
        int bad = Told.content(c -> !Told.isGood(Told.testKey(0, c)));
        grid.write(0, bad);
        Told.compile(grid, 0, 0, 16);
        grid.build(2);
        grid.pass(6);
        Expect.same("15: one failure", grid.state(0, 0), READY);
        grid.pass(6);
        Expect.same("15: two", grid.state(0, 0), READY);
        Expect.same("15: what needs it waits", grid.state(1, 0), OPEN);
        grid.pass(6);
        Expect.same("15: with the third it is done", grid.state(0, 0), DONE);
        Expect.same("15: what needs it is ready", grid.state(1, 0), READY);
        Expect.same("21: a flake", grid.count(4), 3);
        Expect.same("19: not sound", grid.about(0, 0), 0);
        Told.passAll(grid);
        Expect.same("18: with its result", grid.result(1, 0),
            Told.compileKey(0, 0, Expect.sum(Told.testKey(0, bad))));
        Expect.same("19: not sound by its input", grid.about(1, 0), 0);
    }

    private static boolean isNew(BuildGrid grid, int content) {
        for (int entry = 0; entry < grid.entries(); entry++) {
            if (grid.entry(entry, 0) == Told.testKey(0, content)) {
                return false;
            }
        }
        return true;
    }

    private static void endsAndBeginsAgain() {
        BuildGrid grid = new BuildGrid();
        Told.compile(grid, 0, 0, 0);
        grid.build(1);
        grid.pass(7);
        Expect.yes("16: one tick is left", grid.goesOn());
        Expect.state("14: so no other build", () -> grid.build(1));
        Expect.state("4: nor a tool", () -> grid.setTool(0, 1));
        Expect.same("2: but a file", grid.write(3, 1), 0);
        Expect.same("5: and an input", grid.input(3, NONE, 0, 0), 1);
        grid.pass(1);
        Expect.no("16: none is left", grid.goesOn());
        Expect.same("4: then a tool", grid.setTool(0, 1), 0);
        Expect.same("3: a setting", grid.set(0, 1), 0);
        Expect.same("6: a target", grid.target(COMPILE, 0, 0, 1, NONE, 0), 1);
        Expect.same("7: a copy", grid.copy(1, 1), 2);
        grid.pass(50);
        Expect.same("17: what it was stays", grid.state(0, 0), DONE);
        Expect.same("18: and what it made", grid.result(0, 0), Told.compileKey(0, 0, 0));
        Expect.same("17: new ones are nothing", grid.state(1, 0), NONE);
        Expect.same("14: another build", grid.build(0b111), 3);
        Expect.same("14: with the new tool it is ready", grid.state(0, 0), READY);
    }

    // ---- changes

    /** With the change the file that is found is one outside the set: that breaks the target, its result does not. */
    private static void bisectByWhatIsFound() {
        BuildGrid grid = new BuildGrid();
        int key = Told.compileKey(0, 0, 0);
        int content = Told.content(c -> Told.compileKey(0, 0, c) % 16 != key % 16);
        Told.finder(grid, 1 << key % 16, 0);
        grid.write(1, 1);
        grid.write(0, content);
        grid.write(1, 2);
        Expect.same("26: the change with which it breaks out", grid.bisect(0), 1);
        Expect.same("27: 1, 2", grid.looks(), 2);
        BuildGrid test = gridWithKey(TEST, ALL_FILES, k -> k % 4 == 0 && k % 16 != 5 && k % 16 != 6);
        int testKey = keyOf(test);
        test.write(testKey % 16, Told.content(c -> Expect.plus(testKey, c) % 4 != 0));
        for (int i = 1; i <= 30; i++) {
            test.write(6, i);
        }
        Expect.same("26: good at both ends", test.bisect(0), NONE);
        test.write(testKey % 16, Told.content(c -> c > 0 && Expect.plus(testKey, c) % 4 == 0));
        Expect.same("26: by the content of the file found", test.bisect(0), 29);
    }

    private static void bisectByTheSettingsOfNow() {
        BuildGrid grid = new BuildGrid();
        int bad = Told.content(c -> !Told.isGood(Told.testKey(0, c)));
        grid.input(0, 1, 2, 5);
        grid.target(TEST, 0, 1, 1, NONE, 0);
        grid.write(3, 1);
        grid.write(1, bad);
        grid.write(0, bad);
        Expect.same("26: by the other one", grid.bisect(0), 1);
        grid.set(2, 5);
        Expect.same("26: by the first one", grid.bisect(0), 2);
        Expect.same("27: 1, 2", grid.looks(), 2);
    }
}
