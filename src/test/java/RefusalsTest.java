import java.util.ArrayList;
import java.util.List;

/**
 * Every call with every argument at the ends of its range and just outside: in six states of a grid, each
 * combination is due to answer or to throw the first exception that its promise lists; and what was refused has
 * changed nothing, then or later.
 */
public final class RefusalsTest {
    private static final int FAR_BELOW = Integer.MIN_VALUE, FAR_ABOVE = Integer.MAX_VALUE;
    /** So many refused calls and a list of questions stay, with their story, within the calls of one object. */
    private static final int REFUSED_AT_ONCE = 60;

    private static Story story;
    private static List<int[]> refused = new ArrayList<>();
    private static List<List<String>> undisturbed;

    private RefusalsTest() { }

    public static void main(String[] args) {
        for (Story next : Story.all()) {
            story = next;
            begin();
            filesSettingsTools();
            targets();
            workersAndCache();
            builds();
            graphAndChanges();
            checkNothingChanged();
        }
        Expect.close("RefusalsTest");
    }

    private static void begin() {
        BuildGrid grid = story.tell();
        Expect.same(story.name + ": entries", grid.entries(), story.entries);
        Expect.same(story.name + ": goesOn", grid.goesOn() ? 1 : 0, story.goesOn ? 1 : 0);
        Expect.same(story.name + ": changes", grid.changes(), story.changes);
        Expect.same(story.name + ": looks", grid.looks(), story.looks);
        for (int t = 0; t < story.states.length; t++) {
            Expect.same(story.name + ": state(" + t + ", 0)", grid.state(t, 0), story.states[t]);
        }
        refused.clear();
        undisturbed = answersBehind(List.of());
    }

    // ---- the calls

    private static void filesSettingsTools() {
        new Table(Calls.WRITE, "A").range(0, 15).range(0, 999).check();
        new Table(Calls.SET, "AS").range(0, 3).range(0, 9).checkWith(story.goesOn);
        new Table(Calls.SET_TOOL, "AS").range(0, 3).range(0, 9).checkWith(story.goesOn);
    }

    private static void targets() {
        boolean isFull = story.row == Story.FULL_ROW;
        new Table(Calls.INPUT, "AXS").thing().range(BuildGrid.NONE, BuildGrid.NONE, BuildGrid.NONE - 1)
            .range(0, 0).range(0, 0).checkWith(isFull);
        new Table(Calls.INPUT, "AXS").thing().otherThing().range(0, 3).range(0, 9).checkWith(isFull);
        boolean isNoMore = story.row == 0 || story.goesOn || story.told() == Story.FULL_OF_TARGETS;
        new Table(Calls.TARGET, "AS").range(BuildGrid.TEST, BuildGrid.TEST, 3).range(0, 3).range(0, 9).range(1, 4)
            .files().range(0, 3).checkWith(isNoMore);
        new Table(Calls.TARGET, "AS").range(BuildGrid.COMPILE, BuildGrid.LINK, -1).range(0, 3).range(0, 9).range(1, 1)
            .files().range(0, 0).checkWith(isNoMore);
        boolean isNoCopy = story.goesOn || story.told() == Story.FULL_OF_TARGETS;
        new Table(Calls.COPY, "XAS").target().range(0, 9).checkWith(isNoCopy);
    }

    private static void workersAndCache() {
        new Table(Calls.SET_POWER, "A").range(0, 3).range(0, 9).check();
        new Table(Calls.ENTRY, "A").entry().range(0, 6).check();
        new Table(Calls.LIE, "A").entry().range(0, 100002).check();
        new Table(Calls.LOSE, "A").entry().check();
    }

    private static void builds() {
        new Table(Calls.BUILD, "AS").roots().checkWith(story.goesOn);
        new Table(Calls.PASS, "A").range(1, 50).check();
        for (int t = 0; t <= story.told(); t++) {
            int shards = t < story.told() ? story.shards[t] : 1;
            new Table(Calls.STATE, "XA").target(t).range(0, shards - 1).check();
            new Table(Calls.RESULT, "XA").target(t).range(0, shards - 1).check();
        }
        for (int t = 0; t < story.told(); t++) {
            if (story.proved != Story.NOT_KNOWN) {
                new Table(Calls.PROOF, "XS").target(t).checkWith((story.proved & 1 << t) == 0);
            }
        }
        new Table(Calls.PROOF, "XS").target(story.told()).checkWith(true);
        new Table(Calls.ABOUT, "XA").target().range(0, 5).check();
        new Table(Calls.COUNT, "A").range(0, 4).check();
    }

    private static void graphAndChanges() {
        new Table(Calls.NEEDED, "X").target().check();
        new Table(Calls.NEEDING, "AX").thing().check();
        new Table(Calls.STEPS, "X").target().target().check();
        new Table(Calls.BISECT, "X").target().check();
    }

    // ---- what is refused changes nothing

    private static void refuse(int[] call) {
        refused.add(call.clone());
        if (refused.size() == REFUSED_AT_ONCE) {
            checkNothingChanged();
        }
    }

    private static void checkNothingChanged() {
        List<List<String>> answers = answersBehind(refused);
        for (int i = 0; i < answers.size(); i++) {
            String between = refused.isEmpty() ? "no call"
                : Calls.text(refused.get(0)) + " to " + Calls.text(refused.get(refused.size() - 1));
            checkSame(story.name + ": behind " + between + ", all refused, ", answers.get(i), undisturbed.get(i));
        }
        refused.clear();
    }

    private static void checkSame(String what, List<String> got, List<String> due) {
        for (int i = 0; i < due.size(); i++) {
            Expect.text(what, got.get(i), due.get(i));
        }
    }

    private static List<List<String>> answersBehind(List<int[]> refusedCalls) {
        List<List<String>> all = new ArrayList<>();
        for (List<int[]> questions : Questions.all()) {
            BuildGrid grid = story.tell();
            for (int[] call : refusedCalls) {
                Calls.answer(grid, call);
            }
            List<String> answers = new ArrayList<>();
            for (int[] question : questions) {
                answers.add(Calls.text(question) + " -> " + Calls.answer(grid, question));
            }
            Expect.yes("more calls than an object is used for",
                story.calls.size() + refusedCalls.size() + questions.size() <= Calls.MOST);
            all.add(answers);
        }
        return all;
    }

    // ---- tables

    /** What an argument may be: in its range, out of it, or for a target that there is not. */
    private static final class Argument {
        final List<Integer> inRange = new ArrayList<>();
        final List<Integer> outOfRange = new ArrayList<>();
        final List<Integer> noTarget = new ArrayList<>();
        /** What is tried with the first value of the other arguments alone. */
        final List<Integer> far = new ArrayList<>();

        List<Integer> near() {
            List<Integer> all = new ArrayList<>(inRange);
            all.addAll(outOfRange);
            all.addAll(noTarget);
            all.removeAll(far);
            return all;
        }
    }

    /** A method, the exceptions in the order in which its promise lists them, and its arguments. */
    private static final class Table {
        private final int method;
        private final String order;
        private final List<Argument> arguments = new ArrayList<>();
        private boolean stateForbids;

        Table(int method, String order) {
            this.method = method;
            this.order = order;
        }

        Table range(int lowest, int highest) {
            return range(lowest, highest, lowest - 1, highest + 1);
        }

        /** Not both neighbours: the other one is in another table. */
        Table range(int lowest, int highest, int... outside) {
            Argument argument = new Argument();
            argument.inRange.add(lowest);
            if (highest != lowest) {
                argument.inRange.add(highest);
            }
            for (int value : outside) {
                argument.outOfRange.add(value);
            }
            addFar(argument, argument.outOfRange, FAR_BELOW);
            addFar(argument, argument.outOfRange, FAR_ABOVE);
            // There is no choice with NONE alone; far above it stands a target that there is not.
            if (lowest == BuildGrid.NONE) {
                argument.outOfRange.remove((Integer) FAR_ABOVE);
                argument.noTarget.add(FAR_ABOVE);
            }
            arguments.add(argument);
            return this;
        }

        Table files() {
            range(0, 65535, -2, 65536);
            last().inRange.add(0, BuildGrid.NONE);
            return this;
        }

        Table target() {
            Argument argument = absentTargets(0);
            for (int t = 0; t < story.told(); t += Math.max(1, story.told() - 1)) {
                argument.inRange.add(t);
            }
            return this;
        }

        Table target(int only) {
            Argument argument = absentTargets(0);
            if (only < story.told()) {
                argument.inRange.add(only);
            }
            return this;
        }

        Table thing() {
            Argument argument = absentTargets(16);
            argument.noTarget.remove((Integer) 15);
            argument.noTarget.remove((Integer) FAR_BELOW);
            argument.outOfRange.add(-1);
            argument.outOfRange.add(FAR_BELOW);
            argument.inRange.add(0);
            argument.inRange.add(15);
            for (int t = 0; t < story.told(); t += Math.max(1, story.told() - 1)) {
                argument.inRange.add(16 + t);
            }
            return this;
        }

        /** NONE is told in another table, since setting and value have other ranges then. */
        Table otherThing() {
            thing();
            last().outOfRange.set(0, BuildGrid.NONE - 1);
            return this;
        }

        Table entry() {
            Argument argument = new Argument();
            argument.outOfRange.add(-1);
            argument.outOfRange.add(story.entries);
            addFar(argument, argument.outOfRange, FAR_BELOW);
            addFar(argument, argument.outOfRange, FAR_ABOVE);
            for (int entry = 0; entry < story.entries; entry += Math.max(1, story.entries - 1)) {
                argument.inRange.add(entry);
            }
            arguments.add(argument);
            return this;
        }

        Table roots() {
            Argument argument = new Argument();
            int above = 1 << story.told();
            for (int value : new int[] {0, -1, above, above + 1, 2 * above - 1, FAR_BELOW, FAR_BELOW + 1, FAR_ABOVE}) {
                argument.outOfRange.add(value);
            }
            if (story.told() > 0) {
                argument.inRange.add(1);
                argument.inRange.add(above >> 1);
                argument.inRange.add(above - 1);
            }
            arguments.add(argument);
            return this;
        }

        private Argument absentTargets(int offset) {
            Argument argument = new Argument();
            argument.noTarget.add(offset - 1);
            argument.noTarget.add(offset + story.told());
            addFar(argument, argument.noTarget, FAR_BELOW);
            addFar(argument, argument.noTarget, FAR_ABOVE);
            arguments.add(argument);
            return argument;
        }

        private Argument last() {
            return arguments.get(arguments.size() - 1);
        }

        private static void addFar(Argument argument, List<Integer> into, int value) {
            into.add(value);
            argument.far.add(value);
        }

        void checkWith(boolean stateForbids) {
            this.stateForbids = stateForbids;
            check();
        }

        void check() {
            int[] call = new int[arguments.size() + 1];
            call[0] = method;
            combine(call, 0);
            for (int i = 0; i < arguments.size(); i++) {
                for (int value : arguments.get(i).far) {
                    for (int j = 0; j < arguments.size(); j++) {
                        call[j + 1] = j == i ? value : arguments.get(j).near().get(0);
                    }
                    checkCall(call);
                }
            }
        }

        private void combine(int[] call, int place) {
            if (place == arguments.size()) {
                checkCall(call);
                return;
            }
            for (int value : arguments.get(place).near()) {
                call[place + 1] = value;
                combine(call, place + 1);
            }
        }

        private void checkCall(int[] call) {
            String due = due(call);
            String got = Calls.answer(story.tell(), call);
            String what = story.name + ": " + Calls.text(call);
            if (due == null) {
                Expect.text(what, got.startsWith("throws.") ? got : "an answer", "an answer");
            } else {
                Expect.text(what, got, "throws." + due);
                refuse(call);
            }
        }

        private String due(int[] call) {
            for (char exception : order.toCharArray()) {
                if (exception == 'A' && hasAny(call, false)) {
                    return "IllegalArgumentException";
                }
                if (exception == 'X' && hasAny(call, true)) {
                    return "IndexOutOfBoundsException";
                }
                if (exception == 'S' && stateForbids) {
                    return "IllegalStateException";
                }
            }
            return null;
        }

        private boolean hasAny(int[] call, boolean noTarget) {
            for (int i = 0; i < arguments.size(); i++) {
                Argument argument = arguments.get(i);
                if ((noTarget ? argument.noTarget : argument.outOfRange).contains(call[i + 1])) {
                    return true;
                }
            }
            return false;
        }
    }
}
