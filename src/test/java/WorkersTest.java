/** Promises 8 and 9, and what workers do at the ticks of promise 15. */
public final class WorkersTest {
    private static final int OPEN = BuildGrid.OPEN, READY = BuildGrid.READY, RUN = BuildGrid.RUN;
    private static final int DONE = BuildGrid.DONE;

    private WorkersTest() { }

    public static void main(String[] args) {
        promise8SetPower();
        promise8LosesAttempt();
        promise8OtherWorkerGoesOn();
        promise9Signatures();
        promise9Speculates();
        workAndPower();
        warmth();
        warmthIsLost();
        longestWayFirst();
        strongestWorkerFirst();
        wayIsLearnt();
        speculationTakesTheLongest();
        speculationTakesWhatIsLeft();
        speculationHelpsEachWorker();
        strongestNotWarmest();
        speculationAtHomeWins();
        speculationAwayWins();
        speculationWithOtherKey();
        Expect.close("WorkersTest");
    }

    private static void promise8SetPower() {
        BuildGrid grid = new BuildGrid();
        Expect.same("8: the worker 0", grid.setPower(0, 9), 1);
        Expect.same("8: again", grid.setPower(0, 0), 9);
        Expect.same("8: the worker 3", grid.setPower(3, 5), 0);
        Expect.argument("8: worker below", () -> grid.setPower(-1, 0));
        Expect.argument("8: worker above", () -> grid.setPower(4, 0));
        Expect.argument("8: power below", () -> grid.setPower(0, -1));
        Expect.argument("8: power above", () -> grid.setPower(0, 10));
        Expect.same("8: what throws changes nothing", grid.setPower(0, 1), 0);
        Told.compile(grid, 0, 0, 0);
        grid.setPower(0, 0);
        grid.setPower(3, 0);
        grid.build(1);
        grid.pass(50);
        Expect.same("8: nobody is there", grid.state(0, 0), READY);
        Expect.same("8: in a build", grid.setPower(2, 8), 0);
        grid.pass(1);
        Expect.same("8: somebody is there", grid.state(0, 0), DONE);
    }

    private static void promise8LosesAttempt() {
        BuildGrid grid = new BuildGrid();
        Told.compile(grid, 0, 0, 0);
        grid.build(1);
        grid.pass(7);
        grid.setPower(0, 1);
        Expect.same("8: the same power", grid.state(0, 0), RUN);
        Expect.same("8: nothing in vain", grid.count(2), 0);
        grid.setPower(0, 2);
        Expect.same("8: another power", grid.state(0, 0), READY);
        Expect.same("8: in vain", grid.count(2), 1);
        grid.pass(3);
        Expect.same("8: from its beginning", grid.state(0, 0), RUN);
        Expect.same("8: two attempts", grid.count(0), 2);
        grid.setPower(0, 0);
        Expect.same("8: gone", grid.state(0, 0), READY);
        Expect.same("8: in vain again", grid.count(2), 2);
        grid.pass(5);
        Expect.yes("8: it goes on", grid.goesOn());
        grid.setPower(0, 4);
        grid.pass(2);
        Expect.no("8: it is done", grid.goesOn());
        Expect.same("8: no fault", grid.about(0, 0), 1);
    }

    /** Two workers are at one attempt; when one vanishes, nothing is in vain. */
    private static void promise8OtherWorkerGoesOn() {
        BuildGrid grid = new BuildGrid();
        Told.compile(grid, 0, 0, 0);
        grid.setPower(1, 4);
        grid.setWays(true, true);
        grid.build(1);
        grid.pass(1);
        Expect.same("8: two are at it", grid.count(0), 2);
        grid.setPower(1, 0);
        Expect.same("8: one goes on", grid.state(0, 0), RUN);
        Expect.same("8: not in vain", grid.count(2), 0);
        grid.pass(6);
        Expect.same("8: it takes its own ticks", grid.state(0, 0), RUN);
        grid.pass(1);
        Expect.same("8: it ends", grid.state(0, 0), DONE);
        Expect.same("8: and signs", grid.entry(0, 4), 0);
        grid.write(0, 1);
        grid.setPower(1, 4);
        grid.build(1);
        grid.pass(1);
        grid.setPower(0, 0);
        Expect.same("8: the one at home vanishes", grid.state(0, 0), RUN);
        grid.setPower(1, 0);
        Expect.same("8: then nobody is at it", grid.state(0, 0), READY);
        Expect.same("8: that is in vain", grid.count(2), 1);
    }

    private static void promise9Signatures() {
        BuildGrid grid = new BuildGrid();
        Told.compile(grid, 0, 0, 0);
        Told.buildAll(grid, 1);
        int result = grid.result(0, 0);
        grid.lie(0, result + 1);
        grid.build(1);
        Expect.same("9: at first they are looked at", grid.state(0, 0), READY);
        Told.passAll(grid);
        Expect.same("9: it is made again", grid.entries(), 2);
        grid.setWays(false, false);
        grid.build(1);
        Expect.same("9: the first one that fits", grid.result(0, 0), result + 1);
        grid.setWays(true, false);
        grid.build(1);
        Expect.same("9: the first one that is right", grid.result(0, 0), result);
        Expect.same("9: hits", grid.count(1), 2);
    }

    private static void promise9Speculates() {
        BuildGrid grid = new BuildGrid();
        Told.compile(grid, 0, 0, 0);
        grid.setPower(1, 2);
        grid.build(1);
        grid.pass(1);
        Expect.same("9: at first it does not", grid.count(0), 1);
        grid.setWays(true, true);
        grid.pass(1);
        Expect.same("9: it does, from the next tick", grid.count(0), 2);
        grid.setPower(0, 5);
        grid.setWays(true, false);
        grid.pass(1);
        Expect.same("9: it does no more", grid.count(0), 2);
        grid.pass(1);
        Expect.same("9: it was one attempt", grid.state(0, 0), DONE);
        Expect.same("9: none in vain", grid.count(2), 0);
    }

    private static int ticksOf(BuildGrid grid, int target) {
        grid.build(1 << target);
        for (int ticks = 1; ticks < 100; ticks++) {
            grid.pass(1);
            if (grid.state(target, 0) == DONE) {
                return ticks;
            }
        }
        return -1;
    }

    /** A new grid each time: what took which ticks would be in the cache, and the worker would be warm. */
    private static int ticksAt(int power, int kind, int... things) {
        BuildGrid grid = new BuildGrid();
        for (int thing : things) {
            grid.input(thing, BuildGrid.NONE, 0, 0);
        }
        grid.target(kind, 0, 0, 1, BuildGrid.NONE, 0);
        grid.setPower(0, power);
        return ticksOf(grid, 0);
    }

    private static void workAndPower() {
        Expect.same("15: a COMPILE of one input", ticksAt(1, BuildGrid.COMPILE, 0), 8);
        Expect.same("15: a COMPILE of four", ticksAt(1, BuildGrid.COMPILE, 0, 1, 2, 2), 14);
        Expect.same("15: a LINK of one", ticksAt(1, BuildGrid.LINK, 0), 12);
        Expect.same("15: power 2", ticksAt(2, BuildGrid.COMPILE, 0), 4);
        Expect.same("15: power 3, rounded up", ticksAt(3, BuildGrid.COMPILE, 0), 3);
        Expect.same("15: power 9", ticksAt(9, BuildGrid.COMPILE, 0), 1);
        Expect.same("15: power 9 of a LINK", ticksAt(9, BuildGrid.LINK, 0), 2);
        BuildGrid grid = new BuildGrid();
        grid.write(0, Told.content(c -> Told.isGood(Told.testKey(0, c))));
        Told.test(grid, 1, 0, 0);
        Expect.same("15: a TEST", ticksOf(grid, 0), 8);
    }

    private static void warmth() {
        BuildGrid grid = new BuildGrid();
        Told.compile(grid, 1, 0, 0);
        Told.compile(grid, 1, 1, 0);
        Told.compile(grid, 2, 0, 0);
        Told.compile(grid, 1, 2, 0);
        Expect.same("15: cold", ticksOf(grid, 0), 8);
        Expect.same("15: warm, in the next build", ticksOf(grid, 1), 6);
        Expect.same("15: another tool", ticksOf(grid, 2), 8);
        Expect.same("15: the tool before is forgotten", ticksOf(grid, 3), 8);
        grid.setTool(1, 1);
        Expect.same("15: warm with another version", ticksOf(grid, 0), 6);
        grid.setPower(0, 1);
        Expect.same("15: the same power", ticksOf(grid, 1), 6);
        grid.setPower(0, 4);
        Expect.same("15: another power is not warm", ticksOf(grid, 3), 2);
        grid.setTool(1, 2);
        Expect.same("15: at least 1", ticksOf(grid, 0), 1);
    }

    private static void warmthIsLost() {
        BuildGrid grid = new BuildGrid();
        Told.compile(grid, 0, 0, 0);
        Told.compile(grid, 0, 1, 0);
        Expect.same("15: cold", ticksOf(grid, 0), 8);
        grid.setPower(0, 2);
        grid.setPower(0, 1);
        Expect.same("15: idle, but with another power", ticksOf(grid, 1), 8);
        grid.write(0, 1);
        grid.build(1);
        grid.pass(1);
        grid.write(0, 2);
        grid.pass(5);
        Expect.same("15: in vain", grid.count(2), 1);
        grid.pass(5);
        Expect.same("15: but warm by it", grid.state(0, 0), RUN);
        grid.pass(1);
        Expect.same("15: 6 ticks", grid.state(0, 0), DONE);
    }

    private static void longestWayFirst() {
        BuildGrid grid = new BuildGrid();
        Told.compile(grid, 0, 0, 0);
        Told.compile(grid, 0, 1, 0);
        Told.compile(grid, 0, 2, 0);
        Told.link(grid, 1, 0, 16 + 1, 16 + 2);
        grid.build(0b1001);
        grid.pass(1);
        Expect.same("15: a short way waits", grid.state(0, 0), READY);
        Expect.same("15: the lowest of the longest ways", grid.state(1, 0), RUN);
        Expect.same("15: the next waits", grid.state(2, 0), READY);
        Expect.same("15: what needs them is open", grid.state(3, 0), OPEN);
        grid.pass(8);
        Expect.same("15: then the next", grid.state(2, 0), RUN);
        grid.pass(7);
        Expect.same("15: then the LINK, its way is 5 and the lowest target's too", grid.state(0, 0), RUN);
        Expect.same("15: the LINK is ready", grid.state(3, 0), READY);
        BuildGrid shards = new BuildGrid();
        Told.test(shards, 3, 0, 0);
        shards.build(1);
        shards.pass(1);
        Expect.same("15: the lowest shard", shards.state(0, 0), RUN);
        Expect.same("15: others wait", shards.state(0, 1), READY);
    }

    private static void strongestWorkerFirst() {
        BuildGrid grid = new BuildGrid();
        Told.compile(grid, 0, 0, 0);
        Told.compile(grid, 0, 1, 0);
        Told.compile(grid, 0, 2, 0);
        grid.setPower(2, 4);
        grid.setPower(3, 4);
        grid.build(0b111);
        grid.pass(2);
        Expect.same("15: the strongest of the lowest numbers", grid.entry(0, 0), Told.compileKey(0, 0, 0));
        Expect.same("15: is the worker 2", grid.entry(0, 4), 2);
        Expect.same("15: then the worker 3", grid.entry(1, 4), 3);
        Expect.same("15: with the next action", grid.entry(1, 0), Told.compileKey(0, 1, 0));
        Expect.same("15: the weakest has the last", grid.state(2, 0), RUN);
        Expect.same("15: and is at it still", grid.entries(), 2);
    }

    private static void wayIsLearnt() {
        BuildGrid grid = new BuildGrid();
        Told.compile(grid, 0, 0, 0);
        Told.link(grid, 1, 0, 16);
        Told.compile(grid, 2, 0, 16, 1);
        grid.build(0b110);
        Expect.same("19: two times 5", grid.about(0, 5), 10);
        Expect.same("19: one time 5", grid.about(1, 5), 5);
        Told.passAll(grid);
        Expect.same("19: a LINK took 12", grid.about(1, 5), 12);
        Expect.same("19: a COMPILE took 10", grid.about(2, 5), 10);
        Expect.same("19: 8 and the longest", grid.about(0, 5), 20);
        grid.build(0b100);
        Expect.same("19: a hit changes no ticks, fewer are needed", grid.about(0, 5), 18);
        Expect.same("19: not needed", grid.about(1, 5), -1);
        grid.build(1);
        Expect.same("19: nothing behind it", grid.about(0, 5), 8);
    }

    private static void speculationTakesTheLongest() {
        BuildGrid grid = new BuildGrid();
        Told.compile(grid, 0, 0, 0);
        Told.compile(grid, 0, 1, 0, 0);
        Told.compile(grid, 0, 2, 0, 0);
        grid.setPower(0, 0);
        grid.setPower(1, 1);
        grid.setPower(2, 1);
        grid.setPower(3, 1);
        grid.setWays(true, true);
        grid.build(0b111);
        grid.pass(1);
        Expect.same("15: nobody at home, nobody speculates", grid.count(0), 3);
        grid.setPower(0, 9);
        grid.pass(1);
        Expect.same("15: it begins one as well", grid.count(0), 4);
        grid.pass(1);
        Expect.same("15: with the most ticks left, of the lowest worker", grid.state(1, 0), DONE);
        Expect.same("15: not the least", grid.state(0, 0), RUN);
        Expect.same("15: not the next worker's", grid.state(2, 0), RUN);
        Expect.same("15: signed at home", grid.entry(0, 4), 0);
        Expect.same("15: it ended just now", grid.count(0), 4);
        grid.pass(1);
        Expect.same("15: idle again, it begins the next one", grid.count(0), 5);
    }

    /** Of 14 ticks 5 are left, of 8 all: the latter are more. */
    private static void speculationTakesWhatIsLeft() {
        BuildGrid grid = new BuildGrid();
        Told.compile(grid, 0, 0, 0, 0, 0, 0);
        Told.compile(grid, 1, 1, 0);
        grid.setPower(0, 0);
        grid.setPower(1, 1);
        grid.setWays(true, true);
        grid.build(0b11);
        grid.pass(9);
        grid.setPower(2, 1);
        grid.pass(1);
        Expect.same("15: both are run", grid.count(0), 2);
        grid.setPower(0, 9);
        grid.pass(1);
        Expect.same("15: what has 7 left is done at home", grid.state(1, 0), DONE);
        Expect.same("15: what has 4 left is not", grid.state(0, 0), RUN);
    }

    private static void speculationHelpsEachWorker() {
        for (int worker = 1; worker < 4; worker++) {
            BuildGrid grid = new BuildGrid();
            Told.compile(grid, 0, 0, 0);
            grid.setPower(worker, 2);
            grid.setWays(true, true);
            grid.build(1);
            grid.pass(1);
            Expect.same("15: the worker 0 begins as well as the worker " + worker, grid.count(0), 2);
            grid.setPower(worker, 0);
            Expect.same("15: and goes on alone", grid.state(0, 0), RUN);
        }
    }

    /** The warm worker would need a tick less; the strongest has it all the same. */
    private static void strongestNotWarmest() {
        BuildGrid grid = new BuildGrid();
        Told.compile(grid, 0, 0, 0);
        Told.compile(grid, 0, 1, 0);
        grid.setPower(0, 0);
        grid.setPower(1, 3);
        Expect.same("15: the worker 1 becomes warm", ticksOf(grid, 0), 3);
        grid.setPower(2, 4);
        Expect.same("15: the worker 2 has it, cold", ticksOf(grid, 1), 2);
        Expect.same("15: and signs", grid.entry(1, 4), 2);
    }

    /** Who loses the race is idle, and not warm; who wins it is warm. */
    private static void speculationAtHomeWins() {
        BuildGrid grid = new BuildGrid();
        Told.compile(grid, 0, 0, 0);
        Told.compile(grid, 0, 1, 0);
        grid.setPower(0, 0);
        grid.setPower(1, 1);
        Expect.same("15: the worker 1 becomes warm", ticksOf(grid, 1), 8);
        grid.setWays(true, true);
        grid.build(1);
        grid.pass(1);
        grid.setPower(0, 4);
        grid.pass(2);
        Expect.same("15: it is done at home", grid.state(0, 0), DONE);
        Expect.same("15: with 2 ticks from its own beginning on", grid.about(0, 5), 2);
        Expect.same("15: one attempt, two begun", grid.count(0), 3);
        Expect.same("15: nothing in vain", grid.count(2), 0);
        grid.setPower(0, 0);
        grid.write(0, 1);
        Expect.same("15: the worker 1 is not warm any more", ticksOf(grid, 0), 8);
    }

    private static void speculationAwayWins() {
        BuildGrid grid = new BuildGrid();
        Told.compile(grid, 0, 0, 0);
        Told.compile(grid, 0, 1, 0);
        Expect.same("15: the worker 0 becomes warm", ticksOf(grid, 1), 8);
        grid.setPower(1, 4);
        grid.setWays(true, true);
        grid.build(1);
        grid.pass(2);
        Expect.same("15: it is done away", grid.state(0, 0), DONE);
        Expect.same("15: signed away", grid.entry(1, 4), 1);
        grid.setPower(1, 0);
        grid.write(0, 1);
        Expect.same("15: the worker 0 is not warm any more", ticksOf(grid, 0), 8);
    }

    /** Each worker keeps the key with which it began itself. */
    private static void speculationWithOtherKey() {
        BuildGrid grid = new BuildGrid();
        Told.compile(grid, 0, 0, 0);
        grid.setPower(0, 0);
        grid.setPower(1, 1);
        grid.setWays(true, true);
        grid.build(1);
        grid.pass(1);
        grid.write(0, 5);
        grid.setPower(0, 4);
        grid.pass(2);
        Expect.same("15: what began behind the change is right", grid.result(0, 0), Told.compileKey(0, 0, 5));
        Expect.same("15: nothing in vain", grid.count(2), 0);
        grid.setPower(0, 0);
        grid.build(1);
        grid.write(0, 6);
        grid.build(1);
        grid.pass(2);
        grid.write(0, 7);
        grid.setPower(0, 1);
        grid.pass(6);
        Expect.same("15: what began ahead of it ends first, in vain", grid.count(2), 1);
        Expect.same("15: it is to be begun again", grid.state(0, 0), READY);
        grid.pass(1);
        Expect.same("15: by the lowest of equals, which is the one at home", grid.count(0), 5);
    }
}
