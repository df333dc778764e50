/** Calls as rows of numbers, the method first, its arguments behind: so a run can be kept, told again and printed. */
final class Calls {
    static final int WRITE = 0, SET = 1, SET_TOOL = 2, INPUT = 3, TARGET = 4, COPY = 5, SET_POWER = 6, SET_WAYS = 7;
    static final int LIE = 8, LOSE = 9, BUILD = 10, PASS = 11, BISECT = 12;
    static final int ENTRIES = 13, ENTRY = 14, GOES_ON = 15, STATE = 16, RESULT = 17, ABOUT = 18, PROOF = 19;
    static final int COUNT = 20, NEEDED = 21, NEEDING = 22, STEPS = 23, CHANGES = 24, LOOKS = 25;

    /** What an object is used for at most: what a later call answers is free. */
    static final int MOST = 512;

    private static final String[] NAMES = {"write", "set", "setTool", "input", "target", "copy", "setPower", "setWays",
        "lie", "lose", "build", "pass", "bisect", "entries", "entry", "goesOn", "state", "result", "about", "proof",
        "count", "needed", "needing", "steps", "changes", "looks"};

    private Calls() { }

    static String text(int... call) {
        StringBuilder text = new StringBuilder(NAMES[call[0]]).append('(');
        for (int i = 1; i < call.length; i++) {
            text.append(i > 1 ? ", " : "").append(call[i]);
        }
        return text.append(')').toString();
    }

    static String answer(BuildGrid grid, int... call) {
        return answer(grid, null, call);
    }

    static String answer(Model model, int... call) {
        return answer(null, model, call);
    }

    /** The answer, or the exact class of the exception: the machine's own stand below those of the document. */
    private static String answer(BuildGrid grid, Model model, int... call) {
        try {
            return String.valueOf(grid != null ? ask(grid, call) : ask(model, call));
        } catch (IllegalArgumentException | IllegalStateException | IndexOutOfBoundsException e) {
            return "throws." + e.getClass().getSimpleName();
        }
    }

    private static int ask(BuildGrid g, int... c) {
        switch (c[0]) {
            case WRITE: return g.write(c[1], c[2]);
            case SET: return g.set(c[1], c[2]);
            case SET_TOOL: return g.setTool(c[1], c[2]);
            case INPUT: return g.input(c[1], c[2], c[3], c[4]);
            case TARGET: return g.target(c[1], c[2], c[3], c[4], c[5], c[6]);
            case COPY: return g.copy(c[1], c[2]);
            case SET_POWER: return g.setPower(c[1], c[2]);
            case SET_WAYS: g.setWays(c[1] == 1, c[2] == 1); return 0;
            case LIE: g.lie(c[1], c[2]); return 0;
            case LOSE: return g.lose(c[1]) ? 1 : 0;
            case BUILD: return g.build(c[1]);
            case PASS: return g.pass(c[1]);
            case BISECT: return g.bisect(c[1]);
            case ENTRIES: return g.entries();
            case ENTRY: return g.entry(c[1], c[2]);
            case GOES_ON: return g.goesOn() ? 1 : 0;
            case STATE: return g.state(c[1], c[2]);
            case RESULT: return g.result(c[1], c[2]);
            case ABOUT: return g.about(c[1], c[2]);
            case PROOF: return g.proof(c[1]);
            case COUNT: return g.count(c[1]);
            case NEEDED: return g.needed(c[1]);
            case NEEDING: return g.needing(c[1]);
            case STEPS: return g.steps(c[1], c[2]);
            case CHANGES: return g.changes();
            default: return g.looks();
        }
    }

    private static int ask(Model m, int... c) {
        switch (c[0]) {
            case WRITE: return m.write(c[1], c[2]);
            case SET: return m.set(c[1], c[2]);
            case SET_TOOL: return m.setTool(c[1], c[2]);
            case INPUT: return m.input(c[1], c[2], c[3], c[4]);
            case TARGET: return m.target(c[1], c[2], c[3], c[4], c[5], c[6]);
            case COPY: return m.copy(c[1], c[2]);
            case SET_POWER: return m.setPower(c[1], c[2]);
            case SET_WAYS: m.setWays(c[1] == 1, c[2] == 1); return 0;
            case LIE: m.lie(c[1], c[2]); return 0;
            case LOSE: return m.lose(c[1]) ? 1 : 0;
            case BUILD: return m.build(c[1]);
            case PASS: return m.pass(c[1]);
            case BISECT: return m.bisect(c[1]);
            case ENTRIES: return m.entries();
            case ENTRY: return m.entry(c[1], c[2]);
            case GOES_ON: return m.goesOn() ? 1 : 0;
            case STATE: return m.state(c[1], c[2]);
            case RESULT: return m.result(c[1], c[2]);
            case ABOUT: return m.about(c[1], c[2]);
            case PROOF: return m.proof(c[1]);
            case COUNT: return m.count(c[1]);
            case NEEDED: return m.needed(c[1]);
            case NEEDING: return m.needing(c[1]);
            case STEPS: return m.steps(c[1], c[2]);
            case CHANGES: return m.changes();
            default: return m.looks();
        }
    }
}
