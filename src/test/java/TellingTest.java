/** Promises 1 to 7: a new object, files, settings, tools, inputs, targets and copies. */
public final class TellingTest {
    private static final int NONE = BuildGrid.NONE;

    private TellingTest() { }

    public static void main(String[] args) {
        promise1NewObject();
        promise2Write();
        promise3Set();
        promise4SetTool();
        promise5Input();
        promise5Choice();
        promise6Target();
        promise6Limits();
        promise7Copy();
        Expect.close("TellingTest");
    }

    private static BuildGrid withTarget() {
        BuildGrid grid = new BuildGrid();
        grid.input(0, NONE, 0, 0);
        grid.target(BuildGrid.COMPILE, 0, 0, 1, NONE, 0);
        return grid;
    }

    private static BuildGrid building() {
        BuildGrid grid = withTarget();
        grid.build(1);
        return grid;
    }

    private static void promise1NewObject() {
        BuildGrid grid = new BuildGrid();
        Expect.same("1: entries", grid.entries(), 0);
        Expect.same("1: changes", grid.changes(), 0);
        Expect.same("1: looks", grid.looks(), 0);
        Expect.no("1: goesOn", grid.goesOn());
        Expect.index("1: needed(0)", () -> grid.needed(0));
        Expect.index("1: state(0, 0)", () -> grid.state(0, 0));
        Expect.argument("1: build(1)", () -> grid.build(1));
        for (int what = 0; what < 5; what++) {
            Expect.same("1: count", grid.count(what), 0);
        }
        for (int file = 0; file < 16; file++) {
            Expect.same("1: files are 0", grid.write(file, 0), 0);
        }
        for (int i = 0; i < 4; i++) {
            Expect.same("1: settings are 0", grid.set(i, 0), 0);
            Expect.same("1: tools are 0", grid.setTool(i, 0), 0);
            Expect.same("1: powers", grid.setPower(i, 0), i == 0 ? 1 : 0);
        }
        Expect.same("1: now was 0", grid.pass(1), 1);
        Expect.state("1: the row is empty", () -> grid.target(0, 0, 0, 1, NONE, 0));
    }

    private static void promise2Write() {
        BuildGrid grid = building();
        Expect.same("2: first", grid.write(15, 999), 0);
        Expect.same("2: again", grid.write(15, 3), 999);
        Expect.same("2: other file", grid.write(0, 3), 0);
        Expect.same("2: same content", grid.write(0, 3), 3);
        Expect.same("2: changes", grid.changes(), 3);
        Expect.argument("2: file below", () -> grid.write(-1, 0));
        Expect.argument("2: file above", () -> grid.write(16, 0));
        Expect.argument("2: content below", () -> grid.write(0, -1));
        Expect.argument("2: content above", () -> grid.write(0, 1000));
        Expect.argument("2: far off", () -> grid.write(Integer.MIN_VALUE, Integer.MAX_VALUE));
        Expect.same("2: what throws changes nothing", grid.write(0, 4), 3);
        Expect.same("2: changes at the end", grid.changes(), 4);
    }

    private static void promise3Set() {
        BuildGrid grid = withTarget();
        Expect.same("3: first", grid.set(3, 9), 0);
        Expect.same("3: again", grid.set(3, 1), 9);
        Expect.same("3: other setting", grid.set(0, 1), 0);
        Expect.argument("3: setting below", () -> grid.set(-1, 0));
        Expect.argument("3: setting above", () -> grid.set(4, 0));
        Expect.argument("3: value below", () -> grid.set(0, -1));
        Expect.argument("3: value above", () -> grid.set(0, 10));
        grid.build(1);
        Expect.state("3: in a build", () -> grid.set(3, 2));
        Expect.argument("3: the argument first", () -> grid.set(3, 10));
        grid.pass(50);
        Expect.same("3: behind it", grid.set(3, 2), 1);
    }

    private static void promise4SetTool() {
        BuildGrid grid = withTarget();
        int before = grid.about(0, 4);
        Expect.same("4: first", grid.setTool(0, 9), 0);
        Expect.yes("4: it is in the key", grid.about(0, 4) != before);
        Expect.same("4: again", grid.setTool(0, 0), 9);
        Expect.same("4: other tool", grid.setTool(3, 1), 0);
        Expect.same("4: other tools are not in the key", grid.about(0, 4), before);
        Expect.argument("4: tool below", () -> grid.setTool(-1, 0));
        Expect.argument("4: tool above", () -> grid.setTool(4, 0));
        Expect.argument("4: version below", () -> grid.setTool(0, -1));
        Expect.argument("4: version above", () -> grid.setTool(0, 10));
        grid.build(1);
        Expect.state("4: in a build", () -> grid.setTool(0, 1));
        Expect.argument("4: the argument first", () -> grid.setTool(4, 1));
        grid.pass(50);
        Expect.same("4: behind it", grid.setTool(3, 2), 1);
    }

    private static void promise5Input() {
        BuildGrid grid = withTarget();
        Expect.argument("5: one below", () -> grid.input(-1, NONE, 0, 0));
        Expect.argument("5: other below", () -> grid.input(0, -2, 0, 0));
        Expect.argument("5: setting without a choice", () -> grid.input(0, NONE, 1, 0));
        Expect.argument("5: value without a choice", () -> grid.input(0, NONE, 0, 1));
        Expect.argument("5: setting below", () -> grid.input(0, 1, -1, 0));
        Expect.argument("5: setting above", () -> grid.input(0, 1, 4, 0));
        Expect.argument("5: value below", () -> grid.input(0, 1, 0, -1));
        Expect.argument("5: value above", () -> grid.input(0, 1, 0, 10));
        Expect.index("5: no such target", () -> grid.input(17, NONE, 0, 0));
        Expect.index("5: no such other target", () -> grid.input(0, 17, 0, 0));
        Expect.index("5: far above", () -> grid.input(Integer.MAX_VALUE, NONE, 0, 0));
        Expect.argument("5: the argument before the target", () -> grid.input(17, NONE, 1, 0));
        Expect.same("5: one", grid.input(15, NONE, 0, 0), 1);
        Expect.same("5: two", grid.input(16, 15, 3, 9), 2);
        Expect.same("5: three", grid.input(0, 16, 0, 0), 3);
        grid.build(1);
        Expect.same("5: four, in a build", grid.input(16, NONE, 0, 0), 4);
        Expect.state("5: the row is full", () -> grid.input(0, NONE, 0, 0));
        Expect.argument("5: the argument before the row", () -> grid.input(-1, NONE, 0, 0));
        Expect.index("5: the target before the row", () -> grid.input(17, NONE, 0, 0));
    }

    private static void promise5Choice() {
        BuildGrid grid = new BuildGrid();
        grid.write(1, 11);
        grid.write(2, 22);
        grid.input(1, 2, 3, 4);
        grid.target(BuildGrid.LINK, 2, 5, 1, NONE, 0);
        int other = Expect.sum(Expect.sum(1, 2, 0, 5, 0, 22));
        int one = Expect.sum(Expect.sum(1, 2, 0, 5, 0, 11));
        Expect.same("5: the other one", grid.about(0, 4), other);
        grid.set(3, 4);
        Expect.same("5: the first one by the setting of now", grid.about(0, 4), one);
        grid.set(3, 5);
        Expect.same("5: the other one again", grid.about(0, 4), other);
    }

    private static void promise6Target() {
        BuildGrid grid = new BuildGrid();
        grid.input(0, NONE, 0, 0);
        Expect.argument("6: kind below", () -> grid.target(-1, 0, 0, 1, NONE, 0));
        Expect.argument("6: kind above", () -> grid.target(3, 0, 0, 1, NONE, 0));
        Expect.argument("6: tool below", () -> grid.target(0, -1, 0, 1, NONE, 0));
        Expect.argument("6: tool above", () -> grid.target(0, 4, 0, 1, NONE, 0));
        Expect.argument("6: option below", () -> grid.target(0, 0, -1, 1, NONE, 0));
        Expect.argument("6: option above", () -> grid.target(0, 0, 10, 1, NONE, 0));
        Expect.argument("6: no shard", () -> grid.target(2, 0, 0, 0, NONE, 0));
        Expect.argument("6: five shards", () -> grid.target(2, 0, 0, 5, NONE, 0));
        Expect.argument("6: shards of a COMPILE", () -> grid.target(0, 0, 0, 2, NONE, 0));
        Expect.argument("6: shards of a LINK", () -> grid.target(1, 0, 0, 2, NONE, 0));
        Expect.argument("6: finds below", () -> grid.target(0, 0, 0, 1, -2, 0));
        Expect.argument("6: finds above", () -> grid.target(0, 0, 0, 1, 65536, 0));
        Expect.argument("6: flakiness below", () -> grid.target(2, 0, 0, 1, NONE, -1));
        Expect.argument("6: flakiness above", () -> grid.target(2, 0, 0, 1, NONE, 4));
        Expect.argument("6: a flaky COMPILE", () -> grid.target(0, 0, 0, 1, NONE, 1));
        Expect.argument("6: a flaky LINK", () -> grid.target(1, 0, 0, 1, NONE, 1));
        Expect.same("6: first", grid.target(2, 3, 9, 4, 65535, 3), 0);
        Expect.same("6: its shards", grid.state(0, 3), NONE);
        Expect.state("6: the row is empty then", () -> grid.target(0, 0, 0, 1, NONE, 0));
        Expect.argument("6: the argument before the row", () -> grid.target(0, 0, 0, 1, NONE, 1));
        grid.input(16, NONE, 0, 0);
        grid.build(1);
        Expect.state("6: in a build", () -> grid.target(0, 0, 0, 1, 0, 0));
        Expect.argument("6: the argument before the build", () -> grid.target(3, 0, 0, 1, 0, 0));
        grid.pass(50);
        grid.pass(50);
        grid.pass(50);
        Expect.same("6: behind it, with the row kept", grid.target(0, 0, 0, 1, 0, 0), 1);
        Expect.same("6: its input", grid.needed(1), 3);
    }

    private static void promise6Limits() {
        BuildGrid grid = new BuildGrid();
        for (int t = 0; t < 14; t++) {
            grid.input(t % 16, NONE, 0, 0);
            Expect.same("6: numbers", grid.target(0, 0, 0, 1, NONE, 0), t);
        }
        grid.input(16 + 13, NONE, 0, 0);
        Expect.state("6: there are 14", () -> grid.target(0, 0, 0, 1, NONE, 0));
        Expect.state("7: there are 14", () -> grid.copy(0, 0));
        Expect.same("6: all can be built", grid.build((1 << 14) - 1), 14);
    }

    private static void promise7Copy() {
        BuildGrid grid = new BuildGrid();
        grid.write(3, 30);
        grid.input(3, NONE, 0, 0);
        grid.input(4, 5, 1, 1);
        grid.target(BuildGrid.TEST, 3, 2, 2, 0b1010101010101010, 0);
        grid.input(9, NONE, 0, 0);
        Expect.same("7: number", grid.copy(0, 7), 1);
        Expect.same("7: shards", grid.state(1, 1), NONE);
        Expect.argument("7: no more shards", () -> grid.state(1, 2));
        int first = Expect.sum(2, 3, 0, 7, 0, 30, 0);
        int second = Expect.sum(2, 3, 0, 7, 1, 30, 0);
        int[] contents = new int[16];
        contents[3] = 30;
        Expect.same("7: digest", grid.about(1, 4), Expect.sum(Expect.plus(first, contents[first % 16]),
            Expect.plus(second, contents[second % 16])));
        Expect.same("7: the same option", grid.copy(0, 2), 2);
        Expect.same("7: the same digest", grid.about(2, 4), grid.about(0, 4));
        Expect.same("7: the row stays", grid.input(9, NONE, 0, 0), 2);
        Expect.index("7: target below", () -> grid.copy(-1, 0));
        Expect.index("7: target above", () -> grid.copy(3, 0));
        Expect.index("7: the target before the option", () -> grid.copy(3, 10));
        Expect.argument("7: option below", () -> grid.copy(0, -1));
        Expect.argument("7: option above", () -> grid.copy(0, 10));
        Expect.same("7: a copy of a copy", grid.copy(1, 9), 3);
        grid.set(1, 1);
        Expect.same("7: its choice", grid.needing(4), 0b1111);
        grid.build(1);
        Expect.state("7: in a build", () -> grid.copy(0, 0));
        Expect.index("7: the target before the build", () -> grid.copy(4, 0));
        Expect.argument("7: the option before the build", () -> grid.copy(0, 10));
    }
}
