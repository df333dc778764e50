/** Promises 25 to 27: changes, bisections and their looks. */
public final class ChangesTest {
    private static final int NONE = BuildGrid.NONE;

    private ChangesTest() { }

    public static void main(String[] args) {
        promise25Changes();
        promise26Bisect();
        promise26EveryPlace();
        promise26NothingToFind();
        promise26ManyFiles();
        promise26FirstChangesAreForgotten();
        promise26ContentsMoveAlong();
        promise26LooksWhereItWasGoodAgain();
        promise26ByToolsOfNow();
        promise26FlakinessDoesNotMatter();
        promise27Looks();
        Expect.close("ChangesTest");
    }

    private static int good(int atLeast) {
        return Told.content(c -> c >= atLeast && Told.isGood(Told.testKey(0, c)));
    }

    private static int bad(int atLeast) {
        return Told.content(c -> c >= atLeast && !Told.isGood(Told.testKey(0, c)));
    }

    /** A TEST of the file 0, with which it is good. */
    private static BuildGrid goodGrid() {
        BuildGrid grid = new BuildGrid();
        grid.write(0, good(1));
        // Thirty changes of another file let the first one be forgotten.
        for (int i = 1; i <= 30; i++) {
            grid.write(15, i);
        }
        Told.test(grid, 1, 0, 0);
        return grid;
    }

    private static void promise25Changes() {
        BuildGrid grid = new BuildGrid();
        Expect.same("25: none", grid.changes(), 0);
        grid.write(0, 0);
        Expect.same("25: the same content is none", grid.changes(), 0);
        for (int i = 1; i <= 40; i++) {
            grid.write(i % 16, i);
            Expect.same("25: the latest 30 are kept", grid.changes(), Math.min(i, 30));
        }
        grid.write(40 % 16, 40);
        grid.set(0, 1);
        grid.setTool(0, 1);
        Expect.same("25: settings and tools are no changes", grid.changes(), 30);
    }

    private static void promise26Bisect() {
        BuildGrid grid = new BuildGrid();
        Told.test(grid, 1, 0, 0);
        int[] contents = {good(1), good(good(1) + 1), bad(0), bad(bad(0) + 1)};
        Expect.yes("0 is good", Told.isGood(Told.testKey(0, 0)));
        for (int content : contents) {
            grid.write(0, content);
        }
        Expect.same("26: the third change", grid.bisect(0), 2);
        Expect.same("27: 2, then 3", grid.looks(), 2);
        Expect.index("26: target below", () -> grid.bisect(-1));
        Expect.index("26: target above", () -> grid.bisect(1));
        Expect.same("27: what throws changes nothing", grid.looks(), 2);
        Told.compile(grid, 0, 0, 16);
        Expect.same("26: what needs it broke as well", grid.bisect(1), 2);
        Told.compile(grid, 0, 0, 1);
        Expect.same("26: another one did not", grid.bisect(2), NONE);
        grid.build(1);
        Expect.same("26: in a build", grid.bisect(0), 2);
    }

    private static void promise26EveryPlace() {
        for (int place = 0; place < 30; place++) {
            BuildGrid grid = goodGrid();
            for (int i = 0; i < 30; i++) {
                if (i == place) {
                    grid.write(0, bad(0));
                } else {
                    grid.write(15, 100 + i);
                }
            }
            Expect.same("26: at " + place, grid.bisect(0), place);
            Expect.same("27: at " + place, grid.looks(), plainLooks(place));
        }
    }

    private static void promise26NothingToFind() {
        BuildGrid grid = goodGrid();
        Expect.same("26: good now", grid.bisect(0), NONE);
        Expect.same("27: no look", grid.looks(), 0);
        grid.write(0, bad(0));
        for (int i = 0; i < 29; i++) {
            grid.write(15, 100 + i);
        }
        Expect.same("26: the first that is kept", grid.bisect(0), 0);
        grid.write(15, 200);
        Expect.same("26: not good at the beginning", grid.bisect(0), NONE);
        grid.write(0, good(1));
        Expect.same("26: nor broken at the end", grid.bisect(0), NONE);
        BuildGrid none = new BuildGrid();
        Told.finder(none, 0, 0);
        Expect.same("26: no changes, not good", none.bisect(0), NONE);
        Expect.same("27: no changes, no looks", none.looks(), 0);
    }

    /** A file that changed more than once has to be what it was between. */
    private static void promise26ManyFiles() {
        BuildGrid grid = new BuildGrid();
        int first = good(1);
        int second = good(first + 1);
        grid.write(0, first);
        grid.write(15, 1);
        grid.write(0, second);
        grid.write(15, 2);
        grid.write(0, bad(0));
        grid.write(14, 3);
        Told.test(grid, 1, 0, 0);
        Expect.same("26: the fifth change", grid.bisect(0), 4);
        Expect.same("27: 3, 4, 5", grid.looks(), 3);
        grid.write(0, second);
        grid.write(0, bad(0));
        Expect.same("19: nothing is written by it", grid.about(0, 3), 0);
        Expect.same("19: all is as it was", grid.write(0, 0), bad(0));
    }

    private static void promise26FirstChangesAreForgotten() {
        BuildGrid grid = goodGrid();
        grid.write(0, bad(0));
        Expect.same("26: the last of 30", grid.bisect(0), 29);
        grid.write(15, 500);
        Expect.same("26: one was forgotten", grid.bisect(0), 28);
    }

    /** All 30 changes are of the file that is read, and the first 10 were forgotten. */
    private static void promise26ContentsMoveAlong() {
        BuildGrid grid = new BuildGrid();
        Told.test(grid, 1, 0, 0);
        int content = 0;
        int broken = 0;
        for (int i = 0; i < 40; i++) {
            int before = content;
            boolean isGood = before < 25;
            content = Told.content(c -> c > before && Told.isGood(Told.testKey(0, c)) == isGood);
            broken = isGood ? i + 1 : broken;
            grid.write(0, content);
        }
        Expect.same("26: the changes kept begin with the eleventh", grid.bisect(0), broken - 10);
        Expect.same("27: looks", grid.looks(), plainLooks(broken - 10));
    }

    /** The looks of a bisection over 30 changes, told apart from the program. */
    private static int plainLooks(int broken) {
        int low = 0, high = 30, looks = 0;
        while (high - low > 1) {
            looks++;
            int middle = (low + high) / 2;
            if (middle > broken) {
                high = middle;
            } else {
                low = middle;
            }
        }
        return looks;
    }

    /** Good, not good, good, not good: with four changes the middle is the second one. */
    private static void promise26LooksWhereItWasGoodAgain() {
        BuildGrid grid = new BuildGrid();
        Told.test(grid, 1, 0, 0);
        grid.write(0, bad(0));
        grid.write(0, good(1));
        grid.write(15, 1);
        grid.write(0, bad(0));
        Expect.same("26: the change that the looks come to", grid.bisect(0), 3);
        grid.write(0, good(1));
        grid.write(0, bad(0));
        grid.write(0, bad(bad(0) + 1));
        Expect.same("26: 3 is good, 5 too, 6 is not", grid.bisect(0), 5);
        Expect.same("27: 3, 5, 6", grid.looks(), 3);
    }

    private static void promise26ByToolsOfNow() {
        BuildGrid grid = new BuildGrid();
        Told.test(grid, 1, 0, 0);
        int version = -1;
        int content = 0;
        for (int c = 1; c < 1000 && version < 0; c++) {
            for (int v = 1; v < 10 && version < 0; v++) {
                if (Told.isGood(Expect.sum(2, 0, v, 1, 0, 0)) && !Told.isGood(Expect.sum(2, 0, v, 1, 0, c))
                    && Told.isGood(Told.testKey(0, c))) {
                    version = v;
                    content = c;
                }
            }
        }
        grid.write(0, content);
        Expect.same("26: good with the tool as it is", grid.bisect(0), NONE);
        grid.setTool(0, version);
        Expect.same("26: not with that of now", grid.bisect(0), 0);
    }

    private static void promise26FlakinessDoesNotMatter() {
        BuildGrid grid = new BuildGrid();
        Told.test(grid, 1, 3, 0);
        int failing = Told.content(c -> c > 0 && Told.isGood(Told.testKey(0, c))
            && Told.fails(Told.testKey(0, c), 1, 3));
        grid.write(0, failing);
        Expect.same("26: what fails at first is good", grid.bisect(0), NONE);
        grid.write(0, bad(0));
        Expect.same("26: what is not good is not", grid.bisect(0), 1);
        Expect.same("27: the failing one was looked at", grid.looks(), 1);
    }

    private static void promise27Looks() {
        BuildGrid grid = goodGrid();
        Expect.same("27: there was none", grid.looks(), 0);
        grid.write(0, bad(0));
        grid.bisect(0);
        Expect.same("27: 15, 22, 26, 28, 29", grid.looks(), 5);
        Expect.same("27: it stays", grid.looks(), 5);
        grid.write(0, good(1));
        grid.bisect(0);
        Expect.same("27: the latest one did not look at a middle", grid.looks(), 0);
    }
}
