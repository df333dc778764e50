import java.util.ArrayList;
import java.util.HashSet;
import java.util.List;
import java.util.Set;
import java.util.TreeSet;

/**
 * The document once more, written apart from BuildGrid and as near to its words as can be: recursion where it
 * says "each input", a whole pass over all actions behind each tick. ModelTest compares the two call by call.
 */
final class Model {
    private static final int NONE = -1;
    private static final int OPEN = 0, READY = 1, RUN = 2, DONE = 3, BAD = 4, BLOCKED = 5;

    private record Change(int file, int before) { }

    private record In(int one, int other, int setting, int value) { }

    private static final class Act {
        T of;
        int shard, state = NONE, result, worker, failed, attempts;
        boolean flake;
    }

    private static final class T {
        int number, kind, tool, option, finds, flakiness, took = 5;
        List<In> ins = new ArrayList<>();
        List<Act> acts = new ArrayList<>();
        Set<Integer> flakyBuilds = new HashSet<>();
    }

    private static final class E {
        int key, file, content, result, worker, signature;
        boolean there = true;
    }

    private static final class W {
        int power, warm = NONE, key, content, left, took;
        Act at;
    }

    private int now, builds, looks;
    private int[] files = new int[16];
    private final int[] settings = new int[4];
    private final int[] tools = new int[4];
    private final List<Change> changes = new ArrayList<>();
    private List<In> row = new ArrayList<>();
    private final List<T> targets = new ArrayList<>();
    private final List<E> cache = new ArrayList<>();
    private final W[] workers = {new W(), new W(), new W(), new W()};
    private boolean signatures = true, speculates;
    private Set<T> needed = new HashSet<>();
    private final int[] counts = new int[5];

    Model() {
        workers[0].power = 1;
    }

    private static int sum(int... numbers) {
        long s = 7;
        for (int n : numbers) {
            s = (31 * s + n + 1) % 100003;
        }
        return (int) s;
    }

    private static int sum(List<Integer> numbers) {
        return sum(numbers.stream().mapToInt(n -> n).toArray());
    }

    // ---- what is refused

    private static void range(boolean fits) {
        if (!fits) {
            throw new IllegalArgumentException();
        }
    }

    private static void allowed(boolean holds) {
        if (!holds) {
            throw new IllegalStateException();
        }
    }

    private T there(int target) {
        if (target < 0 || target >= targets.size()) {
            throw new IndexOutOfBoundsException();
        }
        return targets.get(target);
    }

    private static boolean in(int n, int from, int to) {
        return from <= n && n <= to;
    }

    // ---- telling

    int write(int file, int content) {
        range(in(file, 0, 15) && in(content, 0, 999));
        int before = files[file];
        if (before != content) {
            changes.add(new Change(file, before));
            if (changes.size() > 30) {
                changes.remove(0);
            }
        }
        files[file] = content;
        return before;
    }

    int set(int setting, int value) {
        range(in(setting, 0, 3) && in(value, 0, 9));
        allowed(!goesOn());
        int before = settings[setting];
        settings[setting] = value;
        return before;
    }

    int setTool(int tool, int version) {
        range(in(tool, 0, 3) && in(version, 0, 9));
        allowed(!goesOn());
        int before = tools[tool];
        tools[tool] = version;
        return before;
    }

    int input(int one, int other, int setting, int value) {
        range(one >= 0 && other >= -1);
        range(other == NONE ? setting == 0 && value == 0 : in(setting, 0, 3) && in(value, 0, 9));
        if (one > 15) {
            there(one - 16);
        }
        if (other > 15) {
            there(other - 16);
        }
        allowed(row.size() < 4);
        row.add(new In(one, other, setting, value));
        return row.size();
    }

    int target(int kind, int tool, int option, int shards, int finds, int flakiness) {
        range(in(kind, 0, 2) && in(tool, 0, 3) && in(option, 0, 9) && in(finds, -1, 65535));
        range(kind == 2 ? in(shards, 1, 4) && in(flakiness, 0, 3) : shards == 1 && flakiness == 0);
        allowed(!row.isEmpty() && !goesOn() && targets.size() < 14);
        T t = tell(kind, tool, option, shards, finds, flakiness);
        t.ins = row;
        row = new ArrayList<>();
        return t.number;
    }

    int copy(int target, int option) {
        T like = there(target);
        range(in(option, 0, 9));
        allowed(!goesOn() && targets.size() < 14);
        T t = tell(like.kind, like.tool, option, like.acts.size(), like.finds, like.flakiness);
        t.ins = like.ins;
        return t.number;
    }

    private T tell(int kind, int tool, int option, int shards, int finds, int flakiness) {
        T t = new T();
        t.number = targets.size();
        t.kind = kind;
        t.tool = tool;
        t.option = option;
        t.finds = finds;
        t.flakiness = flakiness;
        for (int s = 0; s < shards; s++) {
            Act a = new Act();
            a.of = t;
            a.shard = s;
            t.acts.add(a);
        }
        targets.add(t);
        return t;
    }

    int told() {
        return targets.size();
    }

    // ---- inputs

    private int chosen(In i) {
        return i.other == NONE || settings[i.setting] == i.value ? i.one : i.other;
    }

    private List<T> inputTargets(T t) {
        List<T> found = new ArrayList<>();
        for (In i : t.ins) {
            if (chosen(i) > 15) {
                found.add(targets.get(chosen(i) - 16));
            }
        }
        return found;
    }

    private void addNeeded(T t, Set<T> into) {
        if (into.add(t)) {
            for (T i : inputTargets(t)) {
                addNeeded(i, into);
            }
        }
    }

    private Set<T> neededOf(T t) {
        Set<T> all = new HashSet<>();
        addNeeded(t, all);
        return all;
    }

    // ---- from nothing

    private static int found(T t, int key, int[] contents) {
        return t.finds == NONE ? NONE : contents[key % 16];
    }

    private static boolean breaksOut(T t, int key) {
        return t.finds != NONE && (t.finds & 1 << key % 16) == 0;
    }

    private static int resultBy(T t, int key, int[] contents) {
        return t.finds == NONE ? key : (31 * key + contents[key % 16] + 1) % 100003;
    }

    private int freshKey(T t, int shard, int[] contents) {
        List<Integer> n = new ArrayList<>(List.of(t.kind, t.tool, tools[t.tool], t.option, shard));
        for (In i : t.ins) {
            int c = chosen(i);
            n.add(c > 15 ? freshDigest(targets.get(c - 16), contents) : contents[c]);
        }
        return sum(n);
    }

    private int freshResult(T t, int shard, int[] contents) {
        return resultBy(t, freshKey(t, shard, contents), contents);
    }

    private int freshDigest(T t, int[] contents) {
        List<Integer> n = new ArrayList<>();
        for (int s = 0; s < t.acts.size(); s++) {
            n.add(freshResult(t, s, contents));
        }
        return sum(n);
    }

    private boolean good(T t, int[] contents) {
        for (int s = 0; s < t.acts.size(); s++) {
            if (breaksOut(t, freshKey(t, s, contents))
                    || t.kind == 2 && freshResult(t, s, contents) % 4 == 0) {
                return false;
            }
        }
        for (T i : inputTargets(t)) {
            if (!good(i, contents)) {
                return false;
            }
        }
        return true;
    }

    // ---- workers and the cache

    int setPower(int worker, int power) {
        range(in(worker, 0, 3) && in(power, 0, 9));
        W w = workers[worker];
        int before = w.power;
        if (before != power) {
            w.power = power;
            w.warm = NONE;
            Act lost = w.at;
            w.at = null;
            if (lost != null && others(lost) == 0) {
                lost.state = READY;
                counts[2]++;
            }
        }
        return before;
    }

    private int others(Act a) {
        int n = 0;
        for (W w : workers) {
            n += w.at == a ? 1 : 0;
        }
        return n;
    }

    void setWays(boolean looksAtSignatures, boolean speculates) {
        signatures = looksAtSignatures;
        this.speculates = speculates;
    }

    int entries() {
        return cache.size();
    }

    private static int signature(E e) {
        return sum(e.key, e.result, 17 * e.worker + 5);
    }

    int entry(int entry, int what) {
        range(in(entry, 0, cache.size() - 1) && in(what, 0, 6));
        E e = cache.get(entry);
        return new int[] {e.key, e.file, e.content, e.result, e.worker, e.there ? 1 : 0,
            e.signature == signature(e) ? 1 : 0}[what];
    }

    void lie(int entry, int result) {
        range(in(entry, 0, cache.size() - 1) && in(result, 0, 100002));
        cache.get(entry).result = result;
    }

    boolean lose(int entry) {
        range(in(entry, 0, cache.size() - 1));
        boolean was = cache.get(entry).there;
        cache.get(entry).there = false;
        return was;
    }

    // ---- builds

    int build(int roots) {
        range(roots > 0 && roots < Math.pow(2, targets.size()));
        allowed(!goesOn());
        builds++;
        needed = new HashSet<>();
        for (T t : targets) {
            if ((roots & 1 << t.number) != 0) {
                addNeeded(t, needed);
            }
        }
        int n = 0;
        for (T t : targets) {
            for (Act a : t.acts) {
                a.state = needed.contains(t) ? OPEN : NONE;
                a.failed = 0;
                n += needed.contains(t) ? 1 : 0;
            }
        }
        lookAtOpen();
        return n;
    }

    private static boolean waits(Act a) {
        return a.state == OPEN || a.state == READY || a.state == RUN;
    }

    private int keyInBuild(Act a) {
        T t = a.of;
        List<Integer> n = new ArrayList<>(List.of(t.kind, t.tool, tools[t.tool], t.option, a.shard));
        for (In i : t.ins) {
            int c = chosen(i);
            if (c <= 15) {
                n.add(files[c]);
            } else {
                List<Integer> results = new ArrayList<>();
                for (Act b : targets.get(c - 16).acts) {
                    results.add(b.result);
                }
                n.add(sum(results));
            }
        }
        return sum(n);
    }

    private void lookAtOpen() {
        for (T t : targets) {
            for (Act a : t.acts) {
                if (a.state == OPEN) {
                    lookAt(a);
                }
            }
        }
    }

    private void lookAt(Act a) {
        boolean blocked = false;
        for (T i : inputTargets(a.of)) {
            for (Act b : i.acts) {
                if (waits(b)) {
                    return;
                }
                blocked |= b.state == BAD || b.state == BLOCKED;
            }
        }
        if (blocked) {
            a.state = BLOCKED;
            return;
        }
        int key = keyInBuild(a);
        for (E e : cache) {
            if (fits(e, a.of, key)) {
                counts[1]++;
                a.state = DONE;
                a.flake = false;
                a.result = e.result;
                a.worker = e.worker;
                return;
            }
        }
        a.state = READY;
    }

    private boolean fits(E e, T t, int key) {
        if (e.key != key || !e.there || signatures && e.signature != signature(e)) {
            return false;
        }
        if (t.finds == NONE) {
            return e.file == NONE;
        }
        return e.file == key % 16 && e.content == files[key % 16] && (t.finds & 1 << e.file) != 0;
    }

    int pass(int ticks) {
        range(in(ticks, 1, 50));
        for (int i = 0; i < ticks; i++) {
            if (goesOn()) {
                tick();
            }
            now++;
        }
        return now;
    }

    private void tick() {
        while (true) {
            Act best = null;
            for (T t : targets) {
                for (Act a : t.acts) {
                    if (a.state == READY && (best == null || way(t) > way(best.of))) {
                        best = a;
                    }
                }
            }
            W idle = null;
            for (W w : workers) {
                if (w.power > 0 && w.at == null && (idle == null || w.power > idle.power)) {
                    idle = w;
                }
            }
            if (best == null || idle == null) {
                break;
            }
            best.state = RUN;
            best.attempts++;
            begin(idle, best);
        }
        if (speculates && workers[0].power > 0 && workers[0].at == null) {
            W busy = null;
            for (int w = 1; w < 4; w++) {
                if (workers[w].at != null && (busy == null || workers[w].left > busy.left)) {
                    busy = workers[w];
                }
            }
            if (busy != null) {
                begin(workers[0], busy.at);
            }
        }
        for (W w : workers) {
            w.left--;
        }
        for (W w : workers) {
            if (w.at != null && w.left == 0) {
                end(w);
            }
        }
        lookAtOpen();
    }

    private void begin(W w, Act a) {
        counts[0]++;
        w.at = a;
        w.key = keyInBuild(a);
        w.content = found(a.of, w.key, files);
        int work = 6 + 2 * a.of.ins.size() + (a.of.kind == 1 ? 4 : 0);
        w.took = (int) Math.ceil(work / (double) w.power);
        if (w.warm == a.of.tool) {
            w.took = Math.max(1, w.took - 2);
        }
        w.left = w.took;
    }

    private void end(W w) {
        Act a = w.at;
        T t = a.of;
        for (W v : workers) {
            if (v.at == a) {
                v.at = null;
                v.warm = v == w ? t.tool : NONE;
            }
        }
        if (keyInBuild(a) != w.key || found(t, w.key, files) != w.content) {
            counts[2]++;
            a.state = OPEN;
            a.failed = 0;
            return;
        }
        if (breaksOut(t, w.key)) {
            a.state = BAD;
            return;
        }
        int result = resultBy(t, w.key, files);
        boolean good = t.kind != 2 || result % 4 != 0;
        boolean fails = !good || t.kind == 2 && (3 * a.attempts + result) % 5 < t.flakiness;
        if (fails) {
            counts[3]++;
            a.failed++;
            if (a.failed < 3) {
                a.state = READY;
                return;
            }
            if (t.flakyBuilds.size() < 2) {
                a.state = BAD;
                return;
            }
        }
        a.state = DONE;
        a.result = result;
        a.flake = a.failed > 0;
        for (int i = 0; i < 4; i++) {
            a.worker = workers[i] == w ? i : a.worker;
        }
        t.took = w.took;
        if (a.flake) {
            counts[4]++;
            t.flakyBuilds.add(builds);
        } else {
            comeIn(a, w);
        }
    }

    private void comeIn(Act a, W w) {
        E e = new E();
        e.key = w.key;
        e.file = a.of.finds == NONE ? NONE : w.key % 16;
        e.content = w.content;
        e.result = a.result;
        e.worker = a.worker;
        e.signature = signature(e);
        for (E f : cache) {
            if (f.there && f.key == e.key && f.file == e.file && f.content == e.content && f.result == e.result
                    && f.worker == e.worker) {
                return;
            }
        }
        cache.add(e);
        if (cache.size() > 40) {
            cache.remove(0);
        }
    }

    private int way(T t) {
        int most = 0;
        for (T over : needed) {
            if (inputTargets(over).contains(t)) {
                most = Math.max(most, way(over));
            }
        }
        return t.took + most;
    }

    boolean goesOn() {
        for (T t : targets) {
            for (Act a : t.acts) {
                if (waits(a)) {
                    return true;
                }
            }
        }
        return false;
    }

    private Act action(int target, int shard) {
        T t = there(target);
        range(in(shard, 0, t.acts.size() - 1));
        return t.acts.get(shard);
    }

    int state(int target, int shard) {
        return action(target, shard).state;
    }

    int result(int target, int shard) {
        return action(target, shard).state == DONE ? action(target, shard).result : NONE;
    }

    int about(int target, int what) {
        T t = there(target);
        range(in(what, 0, 5));
        return switch (what) {
            case 0 -> sound(t) ? 1 : 0;
            case 1 -> stale(t) ? 1 : 0;
            case 2 -> t.flakyBuilds.size() >= 2 ? 1 : 0;
            case 3 -> good(t, files) ? 1 : 0;
            case 4 -> freshDigest(t, files);
            default -> needed.contains(t) ? way(t) : NONE;
        };
    }

    private boolean sound(T t) {
        for (Act a : t.acts) {
            if (a.state != DONE || a.flake) {
                return false;
            }
        }
        return inputTargets(t).stream().allMatch(this::sound);
    }

    private boolean stale(T t) {
        boolean other = false;
        for (Act a : t.acts) {
            if (a.state != DONE) {
                return false;
            }
            other |= a.result != freshResult(t, a.shard, files);
        }
        return other;
    }

    int proof(int target) {
        T t = there(target);
        allowed(needed.contains(t));
        for (T n : neededOf(t)) {
            for (Act a : n.acts) {
                allowed(a.state == DONE);
            }
        }
        return proofOf(t);
    }

    private int proofOf(T t) {
        List<Integer> n = new ArrayList<>();
        for (Act a : t.acts) {
            n.add(a.result);
            n.add(a.worker);
        }
        for (T i : inputTargets(t)) {
            n.add(proofOf(i));
        }
        return sum(n);
    }

    int count(int what) {
        range(in(what, 0, 4));
        return counts[what];
    }

    // ---- the graph

    private static int bits(Set<T> set) {
        int bits = 0;
        for (T t : set) {
            bits |= 1 << t.number;
        }
        return bits;
    }

    int needed(int target) {
        return bits(neededOf(there(target)));
    }

    int needing(int thing) {
        range(thing >= 0);
        if (thing > 15) {
            there(thing - 16);
        }
        Set<T> found = new HashSet<>();
        for (T t : targets) {
            for (T n : neededOf(t)) {
                if (thing > 15 ? n.number == thing - 16 : n.ins.stream().anyMatch(i -> chosen(i) == thing)) {
                    found.add(t);
                }
            }
        }
        return bits(found);
    }

    int steps(int from, int to) {
        T goal = there(from) == there(to) ? there(from) : there(to);
        Set<Integer> reached = new TreeSet<>(Set.of(from));
        for (int n = 0; n <= 14; n++) {
            if (reached.contains(goal.number)) {
                return n;
            }
            Set<Integer> next = new TreeSet<>();
            for (int t : reached) {
                inputTargets(targets.get(t)).forEach(i -> next.add(i.number));
            }
            reached = next;
        }
        return NONE;
    }

    // ---- changes

    int changes() {
        return changes.size();
    }

    private boolean goodAfter(int made, T t) {
        int[] contents = files.clone();
        for (int c = changes.size() - 1; c >= made; c--) {
            contents[changes.get(c).file] = changes.get(c).before;
        }
        return good(t, contents);
    }

    int bisect(int target) {
        T t = there(target);
        looks = 0;
        if (!goodAfter(0, t) || good(t, files)) {
            return NONE;
        }
        int good = 0, not = changes.size();
        while (not > good + 1) {
            looks++;
            int middle = (good + not) / 2;
            if (goodAfter(middle, t)) {
                good = middle;
            } else {
                not = middle;
            }
        }
        return not - 1;
    }

    int looks() {
        return looks;
    }
}
