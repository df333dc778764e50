/**
 * Builds over several machines: targets, a shared cache, workers, tests with flakes, questions about the graph,
 * proofs, and a bisection of what broke. The document ../shared/DOC.md says what every call answers.
 *
 * All rows are made with the object and used again, so that no later call makes one.
 */
public final class BuildGrid {
    public static final int NONE = -1;
    public static final int COMPILE = 0, LINK = 1, TEST = 2;
    public static final int OPEN = 0, READY = 1, RUN = 2, DONE = 3, BAD = 4, BLOCKED = 5;

    private static final int FILES = 16, CONTENTS = 1000, FILE_SETS = 65536;
    private static final int SETTINGS = 4, TOOLS = 4, DIGITS = 10;
    private static final int KINDS = 3, TARGETS = 14, INPUTS = 4, SHARDS = 4, FLAKINESSES = 4;
    private static final int WORKERS = 4, ENTRIES = 40, CHANGES = 30, MOST_TICKS = 50;
    private static final int ENTRY_FACTS = 7, TARGET_FACTS = 6;

    private static final int MODULUS = 100003, EMPTY_SUM = 7;
    private static final int MOST_FAILURES = 3, FLAKY_BUILDS_ALLOWED = 1;
    private static final int TICKS_UNTIL_KNOWN = 5, TICKS_SAVED_WARM = 2;

    private static final int BEGUN = 0, HITS = 1, IN_VAIN = 2, FAILED = 3, FLAKES = 4, COUNTS = 5;

    private final Sources sources;
    private final Graph graph;
    private final Cache cache;
    private final Course course;
    private final Fresh fresh;
    private int now;
    private int looksAtMiddle;

    public BuildGrid() {
        sources = new Sources();
        graph = new Graph(sources.settings);
        cache = new Cache();
        course = new Course(graph, cache, new View(sources.versions, sources.files));
        fresh = new Fresh(graph, sources);
    }

    // ---- files, settings, tools

    public int write(int file, int content) throws IllegalArgumentException {
        checkArgument(isBelow(file, FILES) && isBelow(content, CONTENTS));
        return sources.rewrite(file, content);
    }

    public int set(int setting, int value) throws IllegalArgumentException, IllegalStateException {
        checkArgument(isBelow(setting, SETTINGS) && isBelow(value, DIGITS));
        checkState(!course.goesOn);
        return exchange(sources.settings, setting, value);
    }

    public int setTool(int tool, int version) throws IllegalArgumentException, IllegalStateException {
        checkArgument(isBelow(tool, TOOLS) && isBelow(version, DIGITS));
        checkState(!course.goesOn);
        return exchange(sources.versions, tool, version);
    }

    // ---- targets

    public int input(int one, int other, int setting, int value)
            throws IllegalArgumentException, IndexOutOfBoundsException, IllegalStateException {
        checkArgument(one >= 0 && other >= NONE);
        if (other == NONE) {
            checkArgument(setting == 0 && value == 0);
        } else {
            checkArgument(isBelow(setting, SETTINGS) && isBelow(value, DIGITS));
        }
        checkThing(one);
        checkThing(other);
        checkState(graph.row.size < INPUTS);
        return graph.row.append(one, other, setting, value);
    }

    public int target(int kind, int tool, int option, int shards, int finds, int flakiness)
            throws IllegalArgumentException, IllegalStateException {
        checkArgument(isBelow(kind, KINDS) && isBelow(tool, TOOLS) && isBelow(option, DIGITS));
        checkArgument(shards >= 1 && shards <= (kind == TEST ? SHARDS : 1));
        checkArgument(finds == NONE || isBelow(finds, FILE_SETS));
        checkArgument(isBelow(flakiness, kind == TEST ? FLAKINESSES : 1));
        checkState(graph.row.size > 0 && !course.goesOn && graph.told < TARGETS);
        Target next = graph.tellNext();
        next.describe(kind, tool, option, shards, finds, flakiness);
        next.inputs.become(graph.row);
        graph.row.size = 0;
        return next.number;
    }

    public int copy(int target, int option)
            throws IndexOutOfBoundsException, IllegalArgumentException, IllegalStateException {
        checkTarget(target);
        checkArgument(isBelow(option, DIGITS));
        checkState(!course.goesOn && graph.told < TARGETS);
        Target model = graph.targetAt(target);
        Target next = graph.tellNext();
        next.describe(model.kind, model.tool, option, model.shards, model.finds, model.flakiness);
        next.inputs.become(model.inputs);
        return next.number;
    }

    // ---- workers and the cache

    public int setPower(int worker, int power) throws IllegalArgumentException {
        checkArgument(isBelow(worker, WORKERS) && isBelow(power, DIGITS));
        Worker changed = course.workerAt(worker);
        int before = changed.power;
        if (power != before) {
            course.changePower(changed, power);
        }
        return before;
    }

    public void setWays(boolean looksAtSignatures, boolean speculates) {
        course.looksAtSignatures = looksAtSignatures;
        course.speculates = speculates;
    }

    public int entries() {
        return cache.size;
    }

    public int entry(int entry, int what) throws IllegalArgumentException {
        Entry kept = cache.entryAt(entry);
        if (kept == null || !isBelow(what, ENTRY_FACTS)) {
            throw new IllegalArgumentException("no such entry, or what is out of range");
        }
        return kept.tell(what);
    }

    public void lie(int entry, int result) throws IllegalArgumentException {
        Entry kept = cache.entryAt(entry);
        if (kept == null || !isBelow(result, MODULUS)) {
            throw new IllegalArgumentException("no such entry, or the result is out of range");
        }
        kept.result = result;
    }

    public boolean lose(int entry) throws IllegalArgumentException {
        Entry kept = cache.entryAt(entry);
        if (kept == null) {
            throw new IllegalArgumentException("no such entry");
        }
        boolean wasThere = kept.isThere;
        kept.isThere = false;
        return wasThere;
    }

    // ---- builds

    public int build(int roots) throws IllegalArgumentException, IllegalStateException {
        checkArgument(roots > 0 && roots < 1 << graph.told);
        checkState(!course.goesOn);
        return course.begin(roots);
    }

    public int pass(int ticks) throws IllegalArgumentException {
        checkArgument(ticks >= 1 && ticks <= MOST_TICKS);
        for (int i = 0; i < ticks; i++) {
            if (course.goesOn) {
                course.passTick();
            }
            now++;
        }
        return now;
    }

    public boolean goesOn() {
        return course.goesOn;
    }

    public int state(int target, int shard) throws IndexOutOfBoundsException, IllegalArgumentException {
        return checkedAction(target, shard).state;
    }

    public int result(int target, int shard) throws IndexOutOfBoundsException, IllegalArgumentException {
        Action action = checkedAction(target, shard);
        return action.state == DONE ? action.result : NONE;
    }

    public int about(int target, int what) throws IndexOutOfBoundsException, IllegalArgumentException {
        checkTarget(target);
        checkArgument(isBelow(what, TARGET_FACTS));
        Target asked = graph.targetAt(target);
        switch (what) {
            case 0:
                return bitOf(graph.soundTargets(), target);
            case 1:
                return fresh.isStale(asked) ? 1 : 0;
            case 2:
                return asked.isInQuarantine() ? 1 : 0;
            case 3:
                return bitOf(fresh.goodTargets(sources.kept), target);
            case 4:
                return fresh.digestOf(asked);
            default:
                return course.wayOf(asked);
        }
    }

    public int proof(int target) throws IndexOutOfBoundsException, IllegalStateException {
        checkTarget(target);
        checkState(graph.isAllDone(graph.withNeeded(1 << target)));
        return graph.proofOf(target);
    }

    public int count(int what) throws IllegalArgumentException {
        checkArgument(isBelow(what, COUNTS));
        return at(course.counts, what);
    }

    // ---- the graph

    public int needed(int target) throws IndexOutOfBoundsException {
        checkTarget(target);
        return graph.withNeeded(1 << target);
    }

    public int needing(int thing) throws IllegalArgumentException, IndexOutOfBoundsException {
        checkArgument(thing >= 0);
        checkThing(thing);
        return graph.targetsOver(thing);
    }

    public int steps(int from, int to) throws IndexOutOfBoundsException {
        checkTarget(from);
        checkTarget(to);
        return graph.distance(from, to);
    }

    // ---- changes

    public int changes() {
        return sources.kept;
    }

    public int bisect(int target) throws IndexOutOfBoundsException {
        checkTarget(target);
        looksAtMiddle = 0;
        int good = 0;
        int broken = sources.kept;
        if (!isGoodAfter(good, target) || isGoodAfter(broken, target)) {
            return NONE;
        }
        for (int look = 0; look < CHANGES && broken - good > 1; look++) {
            int middle = (good + broken) / 2;
            looksAtMiddle++;
            if (isGoodAfter(middle, target)) {
                good = middle;
            } else {
                broken = middle;
            }
        }
        return broken - 1;
    }

    public int looks() {
        return looksAtMiddle;
    }

    // ---- checks of arguments

    private static void checkArgument(boolean isInRange) {
        if (!isInRange) {
            throw new IllegalArgumentException("an argument is out of range");
        }
    }

    private static void checkState(boolean allows) {
        if (!allows) {
            throw new IllegalStateException("not as things stand now");
        }
    }

    private void checkTarget(int target) {
        if (!isBelow(target, graph.told)) {
            throw new IndexOutOfBoundsException("no such target");
        }
    }

    private void checkThing(int thing) {
        if (isTarget(thing)) {
            checkTarget(thing - FILES);
        }
    }

    private Action checkedAction(int target, int shard) {
        checkTarget(target);
        Target asked = graph.targetAt(target);
        checkArgument(isBelow(shard, asked.shards));
        return asked.actionAt(shard);
    }

    private boolean isGoodAfter(int changesMade, int target) {
        return bitOf(fresh.goodTargets(changesMade), target) == 1;
    }

    // ---- numbers, rows and sums

    private static boolean isBelow(int number, int limit) {
        return number >= 0 && number < limit;
    }

    private static boolean isTarget(int thing) {
        return thing >= FILES;
    }

    private static int bitOf(int bits, int place) {
        return bits >> place & 1;
    }

    private static int at(int[] row, int index) {
        return index >= 0 && index < row.length ? row[index] : NONE;
    }

    private static void store(int[] row, int index, int value) {
        if (index >= 0 && index < row.length) {
            row[index] = value;
        }
    }

    private static int exchange(int[] row, int index, int value) {
        int before = at(row, index);
        store(row, index, value);
        return before;
    }

    private static int plus(int sum, int number) {
        return (31 * sum + number + 1) % MODULUS;
    }

    private static int resultOf(int key, int contentFound) {
        return contentFound == NONE ? key : plus(key, contentFound);
    }

    /** Files, settings and tools as they are now, and the latest changes of files. */
    private static final class Sources {
        final int[] files = new int[FILES];
        final int[] settings = new int[SETTINGS];
        final int[] versions = new int[TOOLS];
        private final int[] changedFiles = new int[CHANGES];
        private final int[] contentsBefore = new int[CHANGES];
        int kept;

        int rewrite(int file, int content) {
            int before = exchange(files, file, content);
            if (before != content) {
                keepChange(file, before);
            }
            return before;
        }

        private void keepChange(int file, int before) {
            if (kept == CHANGES) {
                forgetFirstChange();
            }
            store(changedFiles, kept, file);
            store(contentsBefore, kept, before);
            kept++;
        }

        private void forgetFirstChange() {
            for (int i = 1; i < kept; i++) {
                store(changedFiles, i - 1, at(changedFiles, i));
                store(contentsBefore, i - 1, at(contentsBefore, i));
            }
            kept--;
        }

        void filesAfter(int changesMade, int[] contents) {
            for (int file = 0; file < FILES; file++) {
                store(contents, file, at(files, file));
            }
            // The latest is undone first, since a file may have changed more than once.
            for (int i = kept - 1; i >= changesMade; i--) {
                store(contents, at(changedFiles, i), at(contentsBefore, i));
            }
        }
    }

    /** A row of up to four inputs, each of them a file, a target, or a choice of two. */
    private static final class Inputs {
        private final int[] settingsOfNow;
        private final int[] ones = new int[INPUTS];
        private final int[] others = new int[INPUTS];
        private final int[] settings = new int[INPUTS];
        private final int[] values = new int[INPUTS];
        int size;

        Inputs(int[] settingsOfNow) {
            this.settingsOfNow = settingsOfNow;
        }

        int append(int one, int other, int setting, int value) {
            store(ones, size, one);
            store(others, size, other);
            store(settings, size, setting);
            store(values, size, value);
            size++;
            return size;
        }

        void become(Inputs model) {
            size = 0;
            for (int i = 0; i < model.size; i++) {
                append(at(model.ones, i), at(model.others, i), at(model.settings, i), at(model.values, i));
            }
        }

        int chosen(int i) {
            int other = at(others, i);
            boolean isFirst = other == NONE || at(settingsOfNow, at(settings, i)) == at(values, i);
            return isFirst ? at(ones, i) : other;
        }
    }

    /** One shard of a target, and how it fares in the latest build. */
    private static final class Action {
        final int target;
        final int shard;
        int state = NONE;
        int result;
        int worker;
        boolean isFlake;
        int attempts;
        int failures;

        Action(int target, int shard) {
            this.target = target;
            this.shard = shard;
        }

        void open() {
            state = OPEN;
            failures = 0;
        }

        /** An attempt that failed in this build, since it was READY or OPEN again, makes it a flake. */
        void finish(int result, int worker) {
            state = DONE;
            this.result = result;
            this.worker = worker;
            isFlake = failures > 0;
        }

        boolean isUnfinished() {
            return state == OPEN || state == READY || state == RUN;
        }

        boolean isSound() {
            return state == DONE && !isFlake;
        }
    }

    /** What was told of a target, and what its actions have shown of it. */
    private static final class Target {
        final int number;
        final Inputs inputs;
        final Action[] actions = new Action[SHARDS];
        int kind;
        int tool;
        int option;
        int shards;
        int finds;
        int flakiness;
        int ticksTaken = TICKS_UNTIL_KNOWN;
        int way;
        private int flakyBuilds;
        private int lastFlakyBuild;

        Target(int number, int[] settingsOfNow) {
            this.number = number;
            inputs = new Inputs(settingsOfNow);
            for (int shard = 0; shard < SHARDS; shard++) {
                actions[shard] = new Action(number, shard);
            }
        }

        void describe(int kind, int tool, int option, int shards, int finds, int flakiness) {
            this.kind = kind;
            this.tool = tool;
            this.option = option;
            this.shards = shards;
            this.finds = finds;
            this.flakiness = flakiness;
        }

        void startOver(boolean isNeeded) {
            for (int shard = 0; shard < shards; shard++) {
                Action action = actionAt(shard);
                action.open();
                if (!isNeeded) {
                    action.state = NONE;
                }
            }
        }

        Action actionAt(int shard) {
            return shard >= 0 && shard < SHARDS ? actions[shard] : actions[0];
        }

        int work() {
            return 6 + 2 * inputs.size + (kind == LINK ? 4 : 0);
        }

        int fileFound(int key) {
            return finds == NONE ? NONE : key % FILES;
        }

        boolean breaksOut(int key) {
            return finds != NONE && bitOf(finds, key % FILES) == 0;
        }

        boolean isGoodResult(int result) {
            return kind != TEST || result % 4 != 0;
        }

        boolean failsAt(int attempt, int result) {
            return !isGoodResult(result) || (3 * attempt + result) % 5 < flakiness;
        }

        void noteFlakeIn(int build) {
            if (lastFlakyBuild != build) {
                lastFlakyBuild = build;
                flakyBuilds++;
            }
        }

        boolean isInQuarantine() {
            return flakyBuilds > FLAKY_BUILDS_ALLOWED;
        }

        int digestOfResults() {
            int sum = EMPTY_SUM;
            for (int shard = 0; shard < shards; shard++) {
                sum = plus(sum, actionAt(shard).result);
            }
            return sum;
        }

        boolean isAllDone() {
            for (int shard = 0; shard < shards; shard++) {
                if (actionAt(shard).state != DONE) {
                    return false;
                }
            }
            return true;
        }

        boolean isSoundAlone() {
            for (int shard = 0; shard < shards; shard++) {
                if (!actionAt(shard).isSound()) {
                    return false;
                }
            }
            return true;
        }

        Action firstReady() {
            for (int shard = 0; shard < shards; shard++) {
                Action action = actionAt(shard);
                if (action.state == READY) {
                    return action;
                }
            }
            return null;
        }
    }

    /**
     * The targets and what leads from one to another. An input is always an earlier target, so one walk over
     * the numbers, up or down, reaches all that a target needs or is needed by.
     */
    private static final class Graph {
        private final Target[] targets = new Target[TARGETS];
        private final Target nobody;
        private final int[] proofs = new int[TARGETS];
        private final int[] distances = new int[TARGETS];
        final Inputs row;
        int told;

        Graph(int[] settingsOfNow) {
            nobody = new Target(NONE, settingsOfNow);
            row = new Inputs(settingsOfNow);
            for (int t = 0; t < TARGETS; t++) {
                targets[t] = new Target(t, settingsOfNow);
            }
        }

        Target tellNext() {
            if (told < TARGETS) {
                told++;
            }
            return targetAt(told - 1);
        }

        Target targetAt(int number) {
            return number >= 0 && number < told && number < TARGETS ? targets[number] : nobody;
        }

        int withNeeded(int roots) {
            int needed = roots;
            for (int t = told - 1; t >= 0; t--) {
                if (bitOf(needed, t) == 1) {
                    needed |= inputTargets(targetAt(t));
                }
            }
            return needed;
        }

        int inputTargets(Target target) {
            int bits = 0;
            for (int i = 0; i < target.inputs.size; i++) {
                int thing = target.inputs.chosen(i);
                if (isTarget(thing)) {
                    bits |= 1 << thing - FILES;
                }
            }
            return bits;
        }

        int targetsOver(int thing) {
            int over = isTarget(thing) ? 1 << thing - FILES : 0;
            for (int t = 0; t < told; t++) {
                Target target = targetAt(t);
                if ((inputTargets(target) & over) != 0 || hasInput(target, thing)) {
                    over |= 1 << t;
                }
            }
            return over;
        }

        private boolean hasInput(Target target, int thing) {
            for (int i = 0; i < target.inputs.size; i++) {
                if (target.inputs.chosen(i) == thing) {
                    return true;
                }
            }
            return false;
        }

        int distance(int from, int to) {
            for (int t = 0; t < TARGETS; t++) {
                store(distances, t, t == from ? 0 : NONE);
            }
            for (int t = from; t > to; t--) {
                if (at(distances, t) != NONE) {
                    spreadDistance(targetAt(t));
                }
            }
            return at(distances, to);
        }

        private void spreadDistance(Target target) {
            int next = at(distances, target.number) + 1;
            for (int i = 0; i < target.inputs.size; i++) {
                int input = target.inputs.chosen(i) - FILES;
                int known = at(distances, input);
                if (known == NONE || known > next) {
                    store(distances, input, next);
                }
            }
        }

        void findWays(int needed) {
            for (int t = 0; t < told; t++) {
                targetAt(t).way = 0;
            }
            // A way is the greatest of those behind it until the walk comes to its own target.
            for (int t = told - 1; t >= 0; t--) {
                if (bitOf(needed, t) == 1) {
                    Target target = targetAt(t);
                    target.way += target.ticksTaken;
                    spreadWay(target);
                }
            }
        }

        private void spreadWay(Target target) {
            for (int i = 0; i < target.inputs.size; i++) {
                Target input = targetAt(target.inputs.chosen(i) - FILES);
                input.way = Math.max(input.way, target.way);
            }
        }

        boolean isAllDone(int bits) {
            for (int t = 0; t < told; t++) {
                if (bitOf(bits, t) == 1 && !targetAt(t).isAllDone()) {
                    return false;
                }
            }
            return true;
        }

        int soundTargets() {
            int sound = 0;
            for (int t = 0; t < told; t++) {
                Target target = targetAt(t);
                if (target.isSoundAlone() && (inputTargets(target) & ~sound) == 0) {
                    sound |= 1 << t;
                }
            }
            return sound;
        }

        int proofOf(int target) {
            for (int t = 0; t <= target; t++) {
                store(proofs, t, proofOverInputs(targetAt(t)));
            }
            return at(proofs, target);
        }

        private int proofOverInputs(Target target) {
            int sum = EMPTY_SUM;
            for (int shard = 0; shard < target.shards; shard++) {
                Action action = target.actionAt(shard);
                sum = plus(plus(sum, action.result), action.worker);
            }
            for (int i = 0; i < target.inputs.size; i++) {
                int thing = target.inputs.chosen(i);
                if (isTarget(thing)) {
                    sum = plus(sum, at(proofs, thing - FILES));
                }
            }
            return sum;
        }

        /** OPEN as long as one of its inputs is unfinished, then BLOCKED if one went wrong, otherwise DONE. */
        int stateOfInputs(Target target) {
            int inputs = inputTargets(target);
            int state = DONE;
            for (int t = 0; t < target.number; t++) {
                if (bitOf(inputs, t) == 0) {
                    continue;
                }
                for (Action action : targetAt(t).actions) {
                    if (action.isUnfinished()) {
                        return OPEN;
                    }
                    if (action.state == BAD || action.state == BLOCKED) {
                        state = BLOCKED;
                    }
                }
            }
            return state;
        }
    }

    /** The files and digests from which keys and results are made: those in a build, or those from nothing. */
    private static final class View {
        private final int[] versions;
        final int[] contents;
        final int[] digests = new int[TARGETS];

        View(int[] versions, int[] contents) {
            this.versions = versions;
            this.contents = contents;
        }

        int keyOf(Target target, int shard) {
            int sum = plus(EMPTY_SUM, target.kind);
            sum = plus(sum, target.tool);
            sum = plus(sum, at(versions, target.tool));
            sum = plus(sum, target.option);
            sum = plus(sum, shard);
            for (int i = 0; i < target.inputs.size; i++) {
                int thing = target.inputs.chosen(i);
                sum = plus(sum, isTarget(thing) ? at(digests, thing - FILES) : at(contents, thing));
            }
            return sum;
        }

        int contentFound(Target target, int key) {
            return at(contents, target.fileFound(key));
        }
    }

    /** What targets would be if all were made anew, without the cache and without flakes. */
    private static final class Fresh {
        private final Graph graph;
        private final Sources sources;
        private final View view;
        private int good;

        Fresh(Graph graph, Sources sources) {
            this.graph = graph;
            this.sources = sources;
            view = new View(sources.versions, new int[FILES]);
        }

        int goodTargets(int changesMade) {
            make(changesMade);
            return good;
        }

        int digestOf(Target target) {
            make(sources.kept);
            return at(view.digests, target.number);
        }

        boolean isStale(Target target) {
            if (!target.isAllDone()) {
                return false;
            }
            make(sources.kept);
            for (int shard = 0; shard < target.shards; shard++) {
                int key = view.keyOf(target, shard);
                if (target.actionAt(shard).result != resultOf(key, view.contentFound(target, key))) {
                    return true;
                }
            }
            return false;
        }

        private void make(int changesMade) {
            sources.filesAfter(changesMade, view.contents);
            good = 0;
            for (int t = 0; t < graph.told; t++) {
                makeTarget(graph.targetAt(t));
            }
        }

        private void makeTarget(Target target) {
            int sum = EMPTY_SUM;
            boolean isGood = (graph.inputTargets(target) & ~good) == 0;
            for (int shard = 0; shard < target.shards; shard++) {
                int key = view.keyOf(target, shard);
                int result = resultOf(key, view.contentFound(target, key));
                sum = plus(sum, result);
                isGood = isGood && !target.breaksOut(key) && target.isGoodResult(result);
            }
            store(view.digests, target.number, sum);
            if (isGood) {
                good |= 1 << target.number;
            }
        }
    }

    /** What the cache keeps of an action that was DONE. */
    private static final class Entry {
        private int key;
        private int file;
        private int content;
        int result;
        int worker;
        private int signature;
        boolean isThere;

        void fill(int key, int file, int content, int result, int worker) {
            this.key = key;
            this.file = file;
            this.content = content;
            this.result = result;
            this.worker = worker;
            isThere = true;
            signature = rightSignature();
        }

        private int rightSignature() {
            return plus(plus(plus(EMPTY_SUM, key), result), 17 * worker + 5);
        }

        boolean isRightlySigned() {
            return signature == rightSignature();
        }

        boolean isOf(int key, int file, int content) {
            return isThere && this.key == key && this.file == file && this.content == content;
        }

        int tell(int what) {
            switch (what) {
                case 0:
                    return key;
                case 1:
                    return file;
                case 2:
                    return content;
                case 3:
                    return result;
                case 4:
                    return worker;
                case 5:
                    return isThere ? 1 : 0;
                default:
                    return isRightlySigned() ? 1 : 0;
            }
        }
    }

    /** The entries in the order in which they came, in a ring, so that the first one makes room for a new one. */
    private static final class Cache {
        private final Entry[] ring = new Entry[ENTRIES];
        private int first;
        int size;

        Cache() {
            for (int i = 0; i < ENTRIES; i++) {
                ring[i] = new Entry();
            }
        }

        Entry entryAt(int place) {
            return place >= 0 && place < size ? ring[Math.floorMod(first + place, ENTRIES)] : null;
        }

        void keep(int key, int file, int content, int result, int worker) {
            if (hasAlike(key, file, content, result, worker)) {
                return;
            }
            if (size < ENTRIES) {
                size++;
            } else {
                first = (first + 1) % ENTRIES;
            }
            Entry last = entryAt(size - 1);
            if (last != null) {
                last.fill(key, file, content, result, worker);
            }
        }

        private boolean hasAlike(int key, int file, int content, int result, int worker) {
            for (int i = 0; i < size; i++) {
                Entry entry = entryAt(i);
                if (entry != null && entry.isOf(key, file, content) && entry.result == result
                        && entry.worker == worker) {
                    return true;
                }
            }
            return false;
        }

        Entry firstFit(int key, int file, int content, boolean looksAtSignatures) {
            for (int i = 0; i < size; i++) {
                Entry entry = entryAt(i);
                if (entry != null && entry.isOf(key, file, content)
                        && (!looksAtSignatures || entry.isRightlySigned())) {
                    return entry;
                }
            }
            return null;
        }
    }

    /** One that runs actions; it remembers the key and the content with which it began. */
    private static final class Worker {
        final int number;
        int power;
        private int warmTool = NONE;
        Action action; // null while it is at nothing
        int key;
        int content;
        int ticksLeft;
        int ticksTaken;

        Worker(int number, int power) {
            this.number = number;
            this.power = power;
        }

        boolean isIdle() {
            return power > 0 && action == null;
        }

        boolean hasEnded() {
            return action != null && ticksLeft <= 0;
        }

        void start(Action action, Target target, int key, int content) {
            this.action = action;
            this.key = key;
            this.content = content;
            ticksTaken = ticksFor(target);
            ticksLeft = ticksTaken;
        }

        private int ticksFor(Target target) {
            if (power <= 0) {
                return 1;
            }
            int ticks = (target.work() + power - 1) / power;
            return warmTool == target.tool ? Math.max(1, ticks - TICKS_SAVED_WARM) : ticks;
        }

        void spendTick() {
            if (action != null) {
                ticksLeft--;
            }
        }

        int resultMade() {
            return resultOf(key, content);
        }

        boolean beganWith(int key, int content) {
            return this.key == key && this.content == content;
        }

        void rest(int toolLastUsed) {
            action = null;
            warmTool = toolLastUsed;
        }
    }

    /** The course of builds: the latest one, who works at it, and what is counted over all of them. */
    private static final class Course {
        private final Graph graph;
        private final Cache cache;
        private final View view;
        private final Worker home = new Worker(0, 1);
        private final Worker[] workers = new Worker[WORKERS];
        final int[] counts = new int[COUNTS];
        private int needed;
        private int builds;
        boolean goesOn;
        boolean looksAtSignatures = true;
        boolean speculates;

        Course(Graph graph, Cache cache, View view) {
            this.graph = graph;
            this.cache = cache;
            this.view = view;
            workers[0] = home;
            for (int i = 1; i < WORKERS; i++) {
                workers[i] = new Worker(i, 0);
            }
        }

        private void tally(int what) {
            store(counts, what, at(counts, what) + 1);
        }

        // -- beginning

        int begin(int roots) {
            needed = graph.withNeeded(roots);
            builds++;
            int opened = 0;
            for (int t = 0; t < graph.told; t++) {
                Target target = graph.targetAt(t);
                boolean isNeeded = bitOf(needed, t) == 1;
                target.startOver(isNeeded);
                opened += isNeeded ? target.shards : 0;
            }
            settle();
            return opened;
        }

        int wayOf(Target target) {
            if (bitOf(needed, target.number) == 0) {
                return NONE;
            }
            graph.findWays(needed);
            return target.way;
        }

        // -- workers

        Worker workerAt(int number) {
            return number >= 0 && number < WORKERS ? workers[number] : home;
        }

        void changePower(Worker worker, int power) {
            Action lost = worker.action;
            worker.power = power;
            worker.rest(NONE);
            if (lost != null && !isAnyAt(lost)) {
                lost.state = READY;
                tally(IN_VAIN);
            }
        }

        private boolean isAnyAt(Action action) {
            for (Worker worker : workers) {
                if (worker.action == action) {
                    return true;
                }
            }
            return false;
        }

        private void dismissFrom(Action action) {
            for (Worker worker : workers) {
                if (worker.action == action) {
                    worker.rest(NONE);
                }
            }
        }

        private Worker strongestIdle() {
            Worker best = null;
            for (Worker worker : workers) {
                if (worker.isIdle() && (best == null || worker.power > best.power)) {
                    best = worker;
                }
            }
            return best;
        }

        private Worker longestBusy() {
            Worker best = null;
            for (Worker worker : workers) {
                if (worker.action != null && (best == null || worker.ticksLeft > best.ticksLeft)) {
                    best = worker;
                }
            }
            return best;
        }

        // -- a tick

        void passTick() {
            beginReady();
            if (speculates) {
                speculate();
            }
            for (Worker worker : workers) {
                worker.spendTick();
            }
            boolean hasAnyEnded = false;
            for (Worker worker : workers) {
                if (worker.hasEnded()) {
                    end(worker);
                    hasAnyEnded = true;
                }
            }
            // What is OPEN waits for an action that somebody has to end first.
            if (hasAnyEnded) {
                settle();
            }
        }

        private void beginReady() {
            graph.findWays(needed);
            for (int i = 0; i < WORKERS; i++) {
                Worker worker = strongestIdle();
                Action action = worker == null ? null : longestReady();
                if (worker == null || action == null) {
                    return;
                }
                action.state = RUN;
                action.attempts++;
                start(worker, action);
            }
        }

        private Action longestReady() {
            Action best = null;
            int longest = 0;
            for (int t = 0; t < graph.told; t++) {
                Target target = graph.targetAt(t);
                Action ready = target.firstReady();
                if (ready != null && target.way > longest) {
                    best = ready;
                    longest = target.way;
                }
            }
            return best;
        }

        private void start(Worker worker, Action action) {
            Target target = graph.targetAt(action.target);
            int key = view.keyOf(target, action.shard);
            worker.start(action, target, key, view.contentFound(target, key));
            tally(BEGUN);
        }

        private void speculate() {
            Worker busy = longestBusy();
            if (home.isIdle() && busy != null && busy.action != null) {
                start(home, busy.action);
            }
        }

        // -- ends

        private void end(Worker worker) {
            Action action = worker.action;
            if (action == null) {
                return;
            }
            Target target = graph.targetAt(action.target);
            dismissFrom(action);
            worker.rest(target.tool);
            int key = view.keyOf(target, action.shard);
            if (!worker.beganWith(key, view.contentFound(target, key))) {
                tally(IN_VAIN);
                action.open();
            } else if (target.breaksOut(key)) {
                action.state = BAD;
            } else {
                judge(target, action, worker);
            }
        }

        /** What came of an attempt that was neither in vain nor broke out. */
        private void judge(Target target, Action action, Worker worker) {
            int result = worker.resultMade();
            boolean hasFailed = target.failsAt(action.attempts, result);
            if (hasFailed) {
                tally(FAILED);
                action.failures++;
            }
            if (hasFailed && action.failures < MOST_FAILURES) {
                action.state = READY;
            } else if (hasFailed && !target.isInQuarantine()) {
                action.state = BAD;
            } else {
                target.ticksTaken = worker.ticksTaken;
                finish(target, action, result, worker.number);
            }
            if (action.state == DONE && action.isFlake) {
                tally(FLAKES);
                target.noteFlakeIn(builds);
            } else if (action.state == DONE) {
                int file = target.fileFound(worker.key);
                cache.keep(worker.key, file, worker.content, result, worker.number);
            }
        }

        private void finish(Target target, Action action, int result, int worker) {
            action.finish(result, worker);
            store(view.digests, target.number, target.digestOfResults());
        }

        // -- what is OPEN

        private void settle() {
            goesOn = false;
            for (int t = 0; t < graph.told; t++) {
                Target target = graph.targetAt(t);
                for (Action action : target.actions) {
                    if (action.state == OPEN) {
                        leaveOpen(target, action);
                    }
                    goesOn = goesOn || action.isUnfinished();
                }
            }
        }

        private void leaveOpen(Target target, Action action) {
            int inputs = graph.stateOfInputs(target);
            if (inputs != DONE) {
                action.state = inputs;
                return;
            }
            int key = view.keyOf(target, action.shard);
            Entry hit = null;
            if (!target.breaksOut(key)) {
                int content = view.contentFound(target, key);
                hit = cache.firstFit(key, target.fileFound(key), content, looksAtSignatures);
            }
            if (hit == null) {
                action.state = READY;
            } else {
                tally(HITS);
                finish(target, action, hit.result, hit.worker);
            }
        }
    }
}
