/** Promises 22 to 24: questions about the graph. */
public final class GraphTest {
    private static final int NONE = BuildGrid.NONE;

    private GraphTest() { }

    public static void main(String[] args) {
        promise22Needed();
        promise23Needing();
        promise24Steps();
        widestGraph();
        Expect.close("GraphTest");
    }

    /** 0 reads the file 0; 1 the file 1; 2 needs 0; 3 needs 2 and by a setting 1 or 0; 4 needs 3 and 0. */
    private static BuildGrid grid() {
        BuildGrid grid = new BuildGrid();
        Told.compile(grid, 0, 0, 0);
        Told.compile(grid, 0, 0, 1);
        Told.compile(grid, 0, 0, 16, 2);
        grid.input(18, NONE, 0, 0);
        grid.input(17, 16, 1, 5);
        grid.target(BuildGrid.LINK, 0, 0, 1, NONE, 0);
        Told.finder(grid, 65535, 19, 16);
        return grid;
    }

    private static void promise22Needed() {
        BuildGrid grid = grid();
        Expect.same("22: itself", grid.needed(0), 0b00001);
        Expect.same("22: an input", grid.needed(2), 0b00101);
        Expect.same("22: by the setting of now", grid.needed(3), 0b01101);
        Expect.same("22: inputs of inputs", grid.needed(4), 0b11101);
        grid.set(1, 5);
        Expect.same("22: by another setting", grid.needed(4), 0b11111);
        Expect.index("22: target below", () -> grid.needed(-1));
        Expect.index("22: target above", () -> grid.needed(5));
        Expect.index("22: far above", () -> grid.needed(Integer.MAX_VALUE));
    }

    private static void promise23Needing() {
        BuildGrid grid = grid();
        Expect.same("23: a file of one's own or of an input", grid.needing(0), 0b11101);
        Expect.same("23: a file that is chosen not", grid.needing(1), 0b00010);
        Expect.same("23: a file in the middle", grid.needing(2), 0b11100);
        Expect.same("23: a file that is found is no input", grid.needing(15), 0);
        Expect.same("23: a target and itself", grid.needing(16 + 2), 0b11100);
        Expect.same("23: a target that is chosen not", grid.needing(16 + 1), 0b00010);
        Expect.same("23: the last", grid.needing(16 + 4), 0b10000);
        grid.set(1, 5);
        Expect.same("23: a file by another setting", grid.needing(1), 0b11010);
        Expect.same("23: a target by another setting", grid.needing(16 + 1), 0b11010);
        Expect.argument("23: below", () -> grid.needing(-1));
        Expect.argument("23: far below", () -> grid.needing(Integer.MIN_VALUE));
        Expect.index("23: no such target", () -> grid.needing(16 + 5));
        Expect.index("23: far above", () -> grid.needing(Integer.MAX_VALUE));
        Expect.same("23: a file without targets", new BuildGrid().needing(15), 0);
        Expect.index("23: no target at all", () -> new BuildGrid().needing(16));
    }

    private static void promise24Steps() {
        BuildGrid grid = grid();
        Expect.same("24: the same", grid.steps(4, 4), 0);
        Expect.same("24: an input", grid.steps(4, 3), 1);
        Expect.same("24: the shortest of several", grid.steps(4, 0), 1);
        Expect.same("24: two", grid.steps(4, 2), 2);
        Expect.same("24: one cannot", grid.steps(4, 1), NONE);
        Expect.same("24: not backwards", grid.steps(0, 4), NONE);
        Expect.same("24: not beside", grid.steps(2, 1), NONE);
        grid.set(1, 5);
        Expect.same("24: by another setting", grid.steps(4, 1), 2);
        Expect.same("24: from the middle", grid.steps(3, 0), 2);
        Expect.index("24: from below", () -> grid.steps(-1, 0));
        Expect.index("24: from above", () -> grid.steps(5, 0));
        Expect.index("24: to below", () -> grid.steps(0, -1));
        Expect.index("24: to above", () -> grid.steps(0, 5));
        Expect.index("24: the same, but there is none", () -> grid.steps(5, 5));
    }

    /** Every target needs all that it can: walks that took each path apart would not come to an end. */
    private static void widestGraph() {
        BuildGrid grid = new BuildGrid();
        Told.compile(grid, 0, 0, 0);
        for (int t = 1; t < 14; t++) {
            int before = 16 + t - 1;
            Told.compile(grid, 0, 0, before, before, Math.max(16, before - 1), Math.max(16, before - 2));
        }
        Expect.same("22: all", grid.needed(13), (1 << 14) - 1);
        Expect.same("23: all", grid.needing(0), (1 << 14) - 1);
        Expect.same("24: by threes", grid.steps(13, 0), 5);
        grid.setPower(0, 9);
        Told.buildAll(grid, 1 << 13);
        Expect.same("19: good", grid.about(13, 3), 1);
        Expect.same("19: sound", grid.about(13, 0), 1);
        Expect.same("20: as a proof in a build anew", proofOf(grid), grid.proof(13));
    }

    private static int proofOf(BuildGrid grid) {
        int[] proofs = new int[14];
        proofs[0] = Expect.sum(grid.result(0, 0), 0);
        for (int t = 1; t < 14; t++) {
            proofs[t] = Expect.sum(grid.result(t, 0), 0, proofs[t - 1], proofs[t - 1], proofs[Math.max(0, t - 2)],
                proofs[Math.max(0, t - 3)]);
        }
        return proofs[13];
    }
}
