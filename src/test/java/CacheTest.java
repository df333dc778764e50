/** Promises 10 to 13, and what of promises 14 and 15 the cache has a part in. */
public final class CacheTest {
    private static final int NONE = BuildGrid.NONE, READY = BuildGrid.READY, DONE = BuildGrid.DONE;

    private CacheTest() { }

    public static void main(String[] args) {
        promise10Entries();
        promise10AtMost40();
        promise11Entry();
        promise11FileFound();
        promise12Lie();
        promise13Lose();
        alikeComesOnce();
        goneComesAgain();
        otherContentFoundIsNoHit();
        otherSetIsNoHit();
        noFileFoundIsNoHit();
        hitsGoThroughInOnePass();
        aLieGoesUp();
        aHitIsNoFlake();
        waysOfLookingChangeInABuild();
        aHitDoesNotKeepAnEntry();
        Expect.close("CacheTest");
    }

    private static void promise10Entries() {
        BuildGrid grid = new BuildGrid();
        Told.compile(grid, 0, 0, 0);
        Told.compile(grid, 0, 0, 0);
        Told.compile(grid, 0, 1, 16);
        Expect.same("10: empty at first", grid.entries(), 0);
        Told.buildAll(grid, 0b101);
        Expect.same("10: one for each action", grid.entries(), 2);
        Told.buildAll(grid, 0b111);
        Expect.same("10: none for a hit", grid.entries(), 2);
        Expect.same("11: in the order in which they came", grid.entry(0, 0), Told.compileKey(0, 0, 0));
    }

    private static void promise10AtMost40() {
        BuildGrid grid = new BuildGrid();
        Told.compile(grid, 0, 0, 0);
        for (int content = 0; content < 45; content++) {
            grid.write(0, content);
            Told.buildAll(grid, 1);
            Expect.same("10: at most 40", grid.entries(), Math.min(content + 1, 40));
        }
        Expect.same("10: the first ones went", grid.entry(0, 0), Told.compileKey(0, 0, 5));
        Expect.same("10: the last one is there", grid.entry(39, 0), Told.compileKey(0, 0, 44));
        grid.lie(0, 7);
        Expect.same("12: an entry that moved", grid.entry(0, 3), 7);
        Expect.argument("11: there is no 40", () -> grid.entry(40, 0));
        grid.write(0, 4);
        grid.build(1);
        Expect.same("10: what went is no hit", grid.state(0, 0), READY);
        Told.passAll(grid);
        grid.write(0, 6);
        grid.build(1);
        Expect.same("10: what is there is", grid.state(0, 0), DONE);
    }

    private static void promise11Entry() {
        BuildGrid grid = new BuildGrid();
        Told.compile(grid, 0, 0, 0);
        Expect.argument("11: there is none", () -> grid.entry(0, 0));
        grid.setPower(0, 0);
        grid.setPower(2, 9);
        Told.buildAll(grid, 1);
        int key = Told.compileKey(0, 0, 0);
        int[] due = {key, NONE, NONE, key, 2, 1, 1};
        for (int what = 0; what < due.length; what++) {
            Expect.same("11: entry(0, " + what + ")", grid.entry(0, what), due[what]);
        }
        Expect.argument("11: entry below", () -> grid.entry(-1, 0));
        Expect.argument("11: entry above", () -> grid.entry(1, 0));
        Expect.argument("11: what below", () -> grid.entry(0, -1));
        Expect.argument("11: what above", () -> grid.entry(0, 7));
    }

    private static void promise11FileFound() {
        BuildGrid grid = new BuildGrid();
        Told.finder(grid, 65535, 0);
        int key = Told.compileKey(0, 0, 0);
        int file = key % 16;
        Expect.yes("the file found is not the one read", file != 0);
        grid.write(file, 77);
        Told.buildAll(grid, 1);
        int[] due = {key, file, 77, Expect.plus(key, 77), 0, 1, 1};
        for (int what = 0; what < due.length; what++) {
            Expect.same("11: with a file found, " + what, grid.entry(0, what), due[what]);
        }
        Expect.same("11: the result has its content", grid.result(0, 0), Expect.plus(key, 77));
    }

    private static void promise12Lie() {
        BuildGrid grid = new BuildGrid();
        Told.compile(grid, 0, 0, 0);
        Expect.argument("12: there is none", () -> { grid.lie(0, 0); return 0; });
        Told.buildAll(grid, 1);
        int right = grid.entry(0, 3);
        grid.lie(0, 100002);
        Expect.same("12: another result", grid.entry(0, 3), 100002);
        Expect.same("12: the signature as it was", grid.entry(0, 6), 0);
        Expect.same("12: the same key", grid.entry(0, 0), Told.compileKey(0, 0, 0));
        Expect.same("12: its part is there", grid.entry(0, 5), 1);
        Expect.same("12: the build is as it was", grid.result(0, 0), right);
        grid.lie(0, right);
        Expect.same("12: the truth is right again", grid.entry(0, 6), 1);
        grid.lie(0, 0);
        Expect.argument("12: result below", () -> { grid.lie(0, -1); return 0; });
        Expect.argument("12: result above", () -> { grid.lie(0, 100003); return 0; });
        Expect.argument("12: entry below", () -> { grid.lie(-1, 0); return 0; });
        Expect.argument("12: entry above", () -> { grid.lie(1, 0); return 0; });
        Expect.same("12: what throws changes nothing", grid.entry(0, 3), 0);
    }

    private static void promise13Lose() {
        BuildGrid grid = new BuildGrid();
        Told.compile(grid, 0, 0, 0);
        Expect.argument("13: there is none", Expect.asInt(() -> grid.lose(0)));
        Told.buildAll(grid, 1);
        Expect.yes("13: it was there", grid.lose(0));
        Expect.no("13: it was gone", grid.lose(0));
        Expect.same("13: the part is gone", grid.entry(0, 5), 0);
        Expect.same("13: the entry is not", grid.entries(), 1);
        Expect.same("13: its signature is right", grid.entry(0, 6), 1);
        Expect.argument("13: entry below", Expect.asInt(() -> grid.lose(-1)));
        Expect.argument("13: entry above", Expect.asInt(() -> grid.lose(1)));
        grid.build(1);
        Expect.same("13: no hit", grid.state(0, 0), READY);
    }

    private static void alikeComesOnce() {
        BuildGrid grid = new BuildGrid();
        Told.compile(grid, 0, 0, 0);
        Told.buildAll(grid, 1);
        int right = grid.entry(0, 3);
        grid.lie(0, 5);
        Told.buildAll(grid, 1);
        Expect.same("15: another result, another entry", grid.entries(), 2);
        grid.lie(0, right);
        grid.lie(1, 6);
        grid.lie(0, 7);
        grid.build(1);
        grid.lie(0, right);
        Told.passAll(grid);
        Expect.same("15: alike, no other entry", grid.entries(), 2);
        grid.lie(0, 7);
        grid.build(1);
        grid.lie(0, right);
        grid.setPower(0, 0);
        grid.setPower(1, 1);
        Told.passAll(grid);
        Expect.same("15: another worker, another entry", grid.entries(), 3);
        Expect.same("15: of the worker 1", grid.entry(2, 4), 1);
    }

    private static void goneComesAgain() {
        BuildGrid grid = new BuildGrid();
        Told.compile(grid, 0, 0, 0);
        Told.buildAll(grid, 1);
        grid.lose(0);
        Told.buildAll(grid, 1);
        Expect.same("15: alike, but its part is gone", grid.entries(), 2);
        Expect.same("15: the new one has its part", grid.entry(1, 5), 1);
        grid.build(1);
        Expect.same("14: the second one fits", grid.state(0, 0), DONE);
    }

    private static void otherContentFoundIsNoHit() {
        BuildGrid grid = new BuildGrid();
        Told.finder(grid, 65535, 0);
        int key = Told.compileKey(0, 0, 0);
        Told.buildAll(grid, 1);
        grid.write(key % 16, 9);
        grid.build(1);
        Expect.same("14: the content found is another one", grid.state(0, 0), READY);
        Told.passAll(grid);
        Expect.same("15: two entries of one key", grid.entries(), 2);
        grid.write(key % 16, 0);
        grid.build(1);
        Expect.same("14: the first one fits again", grid.result(0, 0), Expect.plus(key, 0));
        Expect.same("14: by a hit", grid.count(1), 1);
    }

    /** Two targets with one key: the file that they find is in the set of the first one alone. */
    private static void otherSetIsNoHit() {
        BuildGrid grid = new BuildGrid();
        int bit = 1 << Told.compileKey(0, 0, 0) % 16;
        Told.finder(grid, bit, 0);
        Told.finder(grid, 65535 ^ bit, 0);
        Told.finder(grid, bit | 1, 0);
        Told.buildAll(grid, 1);
        grid.build(0b110);
        Expect.same("14: it is not in the set", grid.state(1, 0), READY);
        Expect.same("14: it is in the set", grid.state(2, 0), DONE);
        Told.passAll(grid);
        Expect.same("15: so the action broke out", grid.state(1, 0), BuildGrid.BAD);
    }

    private static void noFileFoundIsNoHit() {
        BuildGrid grid = new BuildGrid();
        Told.finder(grid, 65535, 0);
        Told.compile(grid, 0, 0, 0);
        Told.buildAll(grid, 1);
        grid.build(0b10);
        Expect.same("14: it finds none, the entry has one", grid.state(1, 0), READY);
        Told.passAll(grid);
        Expect.same("15: two entries of one key", grid.entry(1, 0), grid.entry(0, 0));
        grid.lose(0);
        grid.build(1);
        Expect.same("14: it finds one, the entry has none", grid.state(0, 0), READY);
    }

    private static void hitsGoThroughInOnePass() {
        BuildGrid grid = new BuildGrid();
        Told.compile(grid, 0, 0, 0);
        Told.compile(grid, 0, 1, 16);
        Told.compile(grid, 0, 2, 17);
        Told.buildAll(grid, 0b100);
        Expect.same("14: all are looked for", grid.build(0b100), 3);
        Expect.no("14: all are hits, it has ended", grid.goesOn());
        Expect.same("21: hits", grid.count(1), 3);
    }

    /** A result that lies is in the keys of what needs it, in this build; from nothing it is not. */
    private static void aLieGoesUp() {
        BuildGrid grid = new BuildGrid();
        Told.compile(grid, 0, 0, 0);
        Told.compile(grid, 0, 1, 16);
        Told.buildAll(grid, 0b10);
        int right = grid.result(1, 0);
        grid.setWays(false, false);
        grid.lie(0, 4711);
        Told.buildAll(grid, 0b10);
        Expect.same("14: the lie", grid.result(0, 0), 4711);
        Expect.same("15: what is made of it", grid.result(1, 0), Told.compileKey(0, 1, Expect.sum(4711)));
        Expect.same("19: stale", grid.about(1, 1), 1);
        Expect.same("19: its digest from nothing", grid.about(1, 4), Expect.sum(right));
        Expect.same("19: sound all the same", grid.about(1, 0), 1);
    }

    /** It was a flake in the build before: what it was then is not looked at. */
    private static void aHitIsNoFlake() {
        BuildGrid grid = new BuildGrid();
        Told.test(grid, 1, 1, 0);
        int fine = Told.content(c -> !Told.fails(Told.testKey(0, c), 1, 1));
        int flaky = Told.content(c -> c != fine && Told.isGood(Told.testKey(0, c))
            && Told.fails(Told.testKey(0, c), 2, 1) && !Told.fails(Told.testKey(0, c), 3, 1));
        grid.write(0, fine);
        Told.buildAll(grid, 1);
        Expect.same("19: sound", grid.about(0, 0), 1);
        grid.write(0, flaky);
        Told.buildAll(grid, 1);
        Expect.same("19: a flake is not sound", grid.about(0, 0), 0);
        grid.write(0, fine);
        grid.build(1);
        Expect.same("14: a hit", grid.count(1), 1);
        Expect.same("19: sound again", grid.about(0, 0), 1);
        Expect.same("21: no other flake", grid.count(4), 1);
        Expect.same("19: nor a quarantine", grid.about(0, 2), 0);
    }

    /** Signatures are looked at as it is told then: an action that is OPEN at first is looked for later. */
    private static void waysOfLookingChangeInABuild() {
        BuildGrid grid = new BuildGrid();
        Told.compile(grid, 0, 0, 0);
        Told.compile(grid, 0, 1, 16);
        Told.buildAll(grid, 2);
        grid.lose(0);
        grid.lie(1, 99);
        grid.build(2);
        grid.pass(1);
        grid.setWays(false, false);
        Told.passAll(grid);
        Expect.same("9: nobody looks any more", grid.result(1, 0), 99);
        grid.lose(2);
        grid.build(2);
        grid.setWays(true, false);
        grid.pass(6);
        Expect.same("9: now somebody does", grid.state(1, 0), READY);
    }

    private static void aHitDoesNotKeepAnEntry() {
        BuildGrid grid = new BuildGrid();
        Told.compile(grid, 0, 0, 0);
        grid.setPower(0, 9);
        for (int content = 0; content < 40; content++) {
            grid.write(0, content);
            grid.build(1);
            grid.pass(1);
        }
        grid.write(0, 0);
        grid.build(1);
        Expect.same("14: the first one is a hit", grid.state(0, 0), DONE);
        grid.write(0, 40);
        grid.build(1);
        grid.pass(1);
        Expect.same("10: and goes as the first one all the same", grid.entry(0, 0), Told.compileKey(0, 0, 1));
    }
}
