import java.lang.management.ManagementFactory;

/** What the machine's room wants: rows are made with the object, and calls that answer make nothing. */
public final class RoomTest {
    private static final long MOST_BYTES_OF_A_GRID = 20_000;

    private RoomTest() { }

    public static void main(String[] args) {
        com.sun.management.ThreadMXBean threads =
            (com.sun.management.ThreadMXBean) ManagementFactory.getThreadMXBean();
        if (!threads.isThreadAllocatedMemorySupported()) {
            Expect.yes("this machine does not count what is made", true);
            Expect.close("RoomTest");
            return;
        }
        long self = Thread.currentThread().getId();
        // Classes are loaded and links made in a first round, which is not measured.
        useAll(told());
        long before = threads.getThreadAllocatedBytes(self);
        BuildGrid grid = told();
        long made = threads.getThreadAllocatedBytes(self) - before;
        Expect.yes("a grid takes " + made + " bytes", made > 0 && made < MOST_BYTES_OF_A_GRID);
        long asked = threads.getThreadAllocatedBytes(self);
        long nothing = threads.getThreadAllocatedBytes(self) - asked;
        asked = threads.getThreadAllocatedBytes(self);
        useAll(grid);
        long used = threads.getThreadAllocatedBytes(self) - asked - nothing;
        Expect.yes("calls took " + used + " bytes", used <= 0);
        Expect.close("RoomTest");
    }

    private static BuildGrid told() {
        BuildGrid grid = new BuildGrid();
        for (int t = 0; t < 14; t++) {
            grid.input(t % 16, BuildGrid.NONE, 0, 0);
            if (t > 0) {
                grid.input(16 + t - 1, t, 0, 0);
            }
            grid.target(t % 3, t % 4, 0, t % 3 == BuildGrid.TEST ? 4 : 1, t % 2 == 0 ? 65535 : BuildGrid.NONE,
                t % 3 == BuildGrid.TEST ? 3 : 0);
        }
        return grid;
    }

    /** With told(), not more calls than a grid is used for. */
    private static void useAll(BuildGrid grid) {
        for (int worker = 0; worker < 4; worker++) {
            grid.setPower(worker, 9);
        }
        grid.setWays(true, true);
        for (int round = 0; round < 4; round++) {
            grid.write(round, 1 + round);
            grid.build((1 << 14) - 1);
            for (int i = 0; i < 20 && grid.goesOn(); i++) {
                grid.pass(50);
            }
        }
        for (int t = 0; t < 14; t++) {
            for (int what = 0; what < 6; what++) {
                grid.about(t, what);
            }
            grid.needed(t);
            grid.needing(16 + t);
            grid.steps(13, t);
            grid.bisect(t);
        }
        int entries = grid.entries();
        for (int e = 0; e < entries; e++) {
            grid.entry(e, 6);
            grid.lie(e, 0);
            grid.lose(e);
        }
    }
}
